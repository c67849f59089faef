section
-- ===== PART A: goes FIRST, ahead of the names: the tables' words, and 'selects' of the private methods out of them =====
/-- a private method of a class that the tables say can be made, by its rows of tables_1 -/
def lw_okq (q : MethodName × Nat) : Prop := (q.1.cls ≠ "java/lang/invoke/MethodHandle" ∧ q.1.cls ≠ "java/lang/invoke/VarHandle") ∧ Cond.instantiable q.1.cls q.2 ∈ tables_1 ∧ Cond.privateMethod q.1 ∈ tables_1 ∧ Cond.instanceMethod q.1 ∈ tables_1
theorem lw_p0 : lw_okq (⟨"EngineCell", "findSheet", "(I)LEngineCell$Sheet;"⟩, 10) := ⟨⟨by decide +kernel, by decide +kernel⟩, List.mem_of_getElem? (i := 17) (by decide +kernel), List.mem_of_getElem? (i := 369) (by decide +kernel), List.mem_of_getElem? (i := 370) (by decide +kernel)⟩
theorem lw_p1 : lw_okq (⟨"EngineCell", "faulted", "(I)I"⟩, 10) := ⟨⟨by decide +kernel, by decide +kernel⟩, List.mem_of_getElem? (i := 17) (by decide +kernel), List.mem_of_getElem? (i := 382) (by decide +kernel), List.mem_of_getElem? (i := 383) (by decide +kernel)⟩
theorem lw_p2 : lw_okq (⟨"EngineCell$Room", "comeTo", "(I)V"⟩, 14) := ⟨⟨by decide +kernel, by decide +kernel⟩, List.mem_of_getElem? (i := 130) (by decide +kernel), List.mem_of_getElem? (i := 425) (by decide +kernel), List.mem_of_getElem? (i := 426) (by decide +kernel)⟩
theorem lw_p3 : lw_okq (⟨"EngineCell$Room", "goOn", "()V"⟩, 14) := ⟨⟨by decide +kernel, by decide +kernel⟩, List.mem_of_getElem? (i := 130) (by decide +kernel), List.mem_of_getElem? (i := 449) (by decide +kernel), List.mem_of_getElem? (i := 450) (by decide +kernel)⟩
theorem lw_p4 : lw_okq (⟨"EngineCell$Room", "spend", "()V"⟩, 14) := ⟨⟨by decide +kernel, by decide +kernel⟩, List.mem_of_getElem? (i := 130) (by decide +kernel), List.mem_of_getElem? (i := 458) (by decide +kernel), List.mem_of_getElem? (i := 459) (by decide +kernel)⟩
theorem lw_p5 : lw_okq (⟨"EngineCell$Room", "ramp", "()V"⟩, 14) := ⟨⟨by decide +kernel, by decide +kernel⟩, List.mem_of_getElem? (i := 130) (by decide +kernel), List.mem_of_getElem? (i := 462) (by decide +kernel), List.mem_of_getElem? (i := 463) (by decide +kernel)⟩
theorem lw_p6 : lw_okq (⟨"EngineCell$Room", "isWaitOver", "()Z"⟩, 14) := ⟨⟨by decide +kernel, by decide +kernel⟩, List.mem_of_getElem? (i := 130) (by decide +kernel), List.mem_of_getElem? (i := 466) (by decide +kernel), List.mem_of_getElem? (i := 467) (by decide +kernel)⟩
theorem lw_p7 : lw_okq (⟨"EngineCell$Room", "loop", "()V"⟩, 14) := ⟨⟨by decide +kernel, by decide +kernel⟩, List.mem_of_getElem? (i := 130) (by decide +kernel), List.mem_of_getElem? (i := 503) (by decide +kernel), List.mem_of_getElem? (i := 504) (by decide +kernel)⟩
theorem lw_p8 : lw_okq (⟨"EngineCell$Engine", "change", "(II)I"⟩, 4) := ⟨⟨by decide +kernel, by decide +kernel⟩, List.mem_of_getElem? (i := 25) (by decide +kernel), List.mem_of_getElem? (i := 518) (by decide +kernel), List.mem_of_getElem? (i := 519) (by decide +kernel)⟩
theorem lw_p9 : lw_okq (⟨"EngineCell$Reports", "join", "(IIJ)V"⟩, 7) := ⟨⟨by decide +kernel, by decide +kernel⟩, List.mem_of_getElem? (i := 183) (by decide +kernel), List.mem_of_getElem? (i := 662) (by decide +kernel), List.mem_of_getElem? (i := 663) (by decide +kernel)⟩
theorem lw_p10 : lw_okq (⟨"EngineCell$Reports", "count", "(JZ)V"⟩, 7) := ⟨⟨by decide +kernel, by decide +kernel⟩, List.mem_of_getElem? (i := 183) (by decide +kernel), List.mem_of_getElem? (i := 670) (by decide +kernel), List.mem_of_getElem? (i := 671) (by decide +kernel)⟩
theorem lw_p11 : lw_okq (⟨"EngineCell$Reports", "name", "(I)V"⟩, 7) := ⟨⟨by decide +kernel, by decide +kernel⟩, List.mem_of_getElem? (i := 183) (by decide +kernel), List.mem_of_getElem? (i := 685) (by decide +kernel), List.mem_of_getElem? (i := 686) (by decide +kernel)⟩
theorem lw_p12 : lw_okq (⟨"EngineCell$Law", "count", "(JJ)V"⟩, 9) := ⟨⟨by decide +kernel, by decide +kernel⟩, List.mem_of_getElem? (i := 213) (by decide +kernel), List.mem_of_getElem? (i := 730) (by decide +kernel), List.mem_of_getElem? (i := 731) (by decide +kernel)⟩
theorem lw_p13 : lw_okq (⟨"EngineCell$Bodies", "holds", "(I)I"⟩, 1) := ⟨⟨by decide +kernel, by decide +kernel⟩, List.mem_of_getElem? (i := 250) (by decide +kernel), List.mem_of_getElem? (i := 795) (by decide +kernel), List.mem_of_getElem? (i := 796) (by decide +kernel)⟩
theorem lw_p14 : lw_okq (⟨"EngineCell$Bodies", "leave", "(I)V"⟩, 1) := ⟨⟨by decide +kernel, by decide +kernel⟩, List.mem_of_getElem? (i := 250) (by decide +kernel), List.mem_of_getElem? (i := 799) (by decide +kernel), List.mem_of_getElem? (i := 800) (by decide +kernel)⟩
theorem lw_p15 : lw_okq (⟨"EngineCell$Bodies", "ramps", "(I)I"⟩, 1) := ⟨⟨by decide +kernel, by decide +kernel⟩, List.mem_of_getElem? (i := 250) (by decide +kernel), List.mem_of_getElem? (i := 803) (by decide +kernel), List.mem_of_getElem? (i := 804) (by decide +kernel)⟩
def lw_privs_1 : List (MethodName × Nat) := [(⟨"EngineCell", "findSheet", "(I)LEngineCell$Sheet;"⟩, 10), (⟨"EngineCell", "faulted", "(I)I"⟩, 10), (⟨"EngineCell$Room", "comeTo", "(I)V"⟩, 14), (⟨"EngineCell$Room", "goOn", "()V"⟩, 14), (⟨"EngineCell$Room", "spend", "()V"⟩, 14), (⟨"EngineCell$Room", "ramp", "()V"⟩, 14), (⟨"EngineCell$Room", "isWaitOver", "()Z"⟩, 14), (⟨"EngineCell$Room", "loop", "()V"⟩, 14), (⟨"EngineCell$Engine", "change", "(II)I"⟩, 4), (⟨"EngineCell$Reports", "join", "(IIJ)V"⟩, 7), (⟨"EngineCell$Reports", "count", "(JZ)V"⟩, 7), (⟨"EngineCell$Reports", "name", "(I)V"⟩, 7), (⟨"EngineCell$Law", "count", "(JJ)V"⟩, 9), (⟨"EngineCell$Bodies", "holds", "(I)I"⟩, 1), (⟨"EngineCell$Bodies", "leave", "(I)V"⟩, 1), (⟨"EngineCell$Bodies", "ramps", "(I)I"⟩, 1)]
theorem lw_r1 : ∀ q ∈ lw_privs_1, lw_okq q := List.forall_mem_cons.mpr ⟨lw_p0, List.forall_mem_cons.mpr ⟨lw_p1, List.forall_mem_cons.mpr ⟨lw_p2, List.forall_mem_cons.mpr ⟨lw_p3, List.forall_mem_cons.mpr ⟨lw_p4, List.forall_mem_cons.mpr ⟨lw_p5, List.forall_mem_cons.mpr ⟨lw_p6, List.forall_mem_cons.mpr ⟨lw_p7, List.forall_mem_cons.mpr ⟨lw_p8, List.forall_mem_cons.mpr ⟨lw_p9, List.forall_mem_cons.mpr ⟨lw_p10, List.forall_mem_cons.mpr ⟨lw_p11, List.forall_mem_cons.mpr ⟨lw_p12, List.forall_mem_cons.mpr ⟨lw_p13, List.forall_mem_cons.mpr ⟨lw_p14, List.forall_mem_cons.mpr ⟨lw_p15, fun _ h => absurd h List.not_mem_nil⟩⟩⟩⟩⟩⟩⟩⟩⟩⟩⟩⟩⟩⟩⟩⟩
theorem lw_p16 : lw_okq (⟨"EngineCell$Bodies", "waits", "(II)I"⟩, 1) := ⟨⟨by decide +kernel, by decide +kernel⟩, List.mem_of_getElem? (i := 250) (by decide +kernel), List.mem_of_getElem? (i := 807) (by decide +kernel), List.mem_of_getElem? (i := 808) (by decide +kernel)⟩
theorem lw_p17 : lw_okq (⟨"EngineCell$Bodies", "loops", "()I"⟩, 1) := ⟨⟨by decide +kernel, by decide +kernel⟩, List.mem_of_getElem? (i := 250) (by decide +kernel), List.mem_of_getElem? (i := 811) (by decide +kernel), List.mem_of_getElem? (i := 812) (by decide +kernel)⟩
theorem lw_p18 : lw_okq (⟨"EngineCellModel", "torqueAt", "(II)I"⟩, 52) := ⟨⟨by decide +kernel, by decide +kernel⟩, List.mem_of_getElem? (i := 838) (by decide +kernel), List.mem_of_getElem? (i := 1017) (by decide +kernel), List.mem_of_getElem? (i := 1018) (by decide +kernel)⟩
theorem lw_p19 : lw_okq (⟨"EngineCellModel", "addStep", "(IIII)V"⟩, 52) := ⟨⟨by decide +kernel, by decide +kernel⟩, List.mem_of_getElem? (i := 838) (by decide +kernel), List.mem_of_getElem? (i := 1039) (by decide +kernel), List.mem_of_getElem? (i := 1040) (by decide +kernel)⟩
theorem lw_p20 : lw_okq (⟨"EngineCellModel", "fails", "(I)I"⟩, 52) := ⟨⟨by decide +kernel, by decide +kernel⟩, List.mem_of_getElem? (i := 838) (by decide +kernel), List.mem_of_getElem? (i := 1049) (by decide +kernel), List.mem_of_getElem? (i := 1050) (by decide +kernel)⟩
theorem lw_p21 : lw_okq (⟨"EngineCellModel", "isStep", "(I)Z"⟩, 52) := ⟨⟨by decide +kernel, by decide +kernel⟩, List.mem_of_getElem? (i := 838) (by decide +kernel), List.mem_of_getElem? (i := 1062) (by decide +kernel), List.mem_of_getElem? (i := 1063) (by decide +kernel)⟩
theorem lw_p22 : lw_okq (⟨"EngineCellModel", "turn", "()V"⟩, 52) := ⟨⟨by decide +kernel, by decide +kernel⟩, List.mem_of_getElem? (i := 838) (by decide +kernel), List.mem_of_getElem? (i := 1074) (by decide +kernel), List.mem_of_getElem? (i := 1075) (by decide +kernel)⟩
theorem lw_p23 : lw_okq (⟨"EngineCellModel", "goOn", "()V"⟩, 52) := ⟨⟨by decide +kernel, by decide +kernel⟩, List.mem_of_getElem? (i := 838) (by decide +kernel), List.mem_of_getElem? (i := 1078) (by decide +kernel), List.mem_of_getElem? (i := 1079) (by decide +kernel)⟩
theorem lw_p24 : lw_okq (⟨"EngineCellModel", "stopBy", "(I)V"⟩, 52) := ⟨⟨by decide +kernel, by decide +kernel⟩, List.mem_of_getElem? (i := 838) (by decide +kernel), List.mem_of_getElem? (i := 1082) (by decide +kernel), List.mem_of_getElem? (i := 1083) (by decide +kernel)⟩
theorem lw_p25 : lw_okq (⟨"EngineCellModel", "passes", "(I)V"⟩, 52) := ⟨⟨by decide +kernel, by decide +kernel⟩, List.mem_of_getElem? (i := 838) (by decide +kernel), List.mem_of_getElem? (i := 1086) (by decide +kernel), List.mem_of_getElem? (i := 1087) (by decide +kernel)⟩
theorem lw_p26 : lw_okq (⟨"EngineCellModel", "ramp", "()V"⟩, 52) := ⟨⟨by decide +kernel, by decide +kernel⟩, List.mem_of_getElem? (i := 838) (by decide +kernel), List.mem_of_getElem? (i := 1090) (by decide +kernel), List.mem_of_getElem? (i := 1091) (by decide +kernel)⟩
theorem lw_p27 : lw_okq (⟨"EngineCellModel", "waits", "()Z"⟩, 52) := ⟨⟨by decide +kernel, by decide +kernel⟩, List.mem_of_getElem? (i := 838) (by decide +kernel), List.mem_of_getElem? (i := 1094) (by decide +kernel), List.mem_of_getElem? (i := 1095) (by decide +kernel)⟩
theorem lw_p28 : lw_okq (⟨"EngineCellModel", "isLost", "(II)Z"⟩, 52) := ⟨⟨by decide +kernel, by decide +kernel⟩, List.mem_of_getElem? (i := 838) (by decide +kernel), List.mem_of_getElem? (i := 1098) (by decide +kernel), List.mem_of_getElem? (i := 1099) (by decide +kernel)⟩
theorem lw_p29 : lw_okq (⟨"EngineCellModel", "corrected", "(II)J"⟩, 52) := ⟨⟨by decide +kernel, by decide +kernel⟩, List.mem_of_getElem? (i := 838) (by decide +kernel), List.mem_of_getElem? (i := 1102) (by decide +kernel), List.mem_of_getElem? (i := 1103) (by decide +kernel)⟩
theorem lw_p30 : lw_okq (⟨"EngineCellModel", "raw", "(II)I"⟩, 52) := ⟨⟨by decide +kernel, by decide +kernel⟩, List.mem_of_getElem? (i := 838) (by decide +kernel), List.mem_of_getElem? (i := 1106) (by decide +kernel), List.mem_of_getElem? (i := 1107) (by decide +kernel)⟩
theorem lw_p31 : lw_okq (⟨"EngineCellModel", "isChannel", "(I)Z"⟩, 52) := ⟨⟨by decide +kernel, by decide +kernel⟩, List.mem_of_getElem? (i := 838) (by decide +kernel), List.mem_of_getElem? (i := 1141) (by decide +kernel), List.mem_of_getElem? (i := 1142) (by decide +kernel)⟩
def lw_privs_2 : List (MethodName × Nat) := [(⟨"EngineCell$Bodies", "waits", "(II)I"⟩, 1), (⟨"EngineCell$Bodies", "loops", "()I"⟩, 1), (⟨"EngineCellModel", "torqueAt", "(II)I"⟩, 52), (⟨"EngineCellModel", "addStep", "(IIII)V"⟩, 52), (⟨"EngineCellModel", "fails", "(I)I"⟩, 52), (⟨"EngineCellModel", "isStep", "(I)Z"⟩, 52), (⟨"EngineCellModel", "turn", "()V"⟩, 52), (⟨"EngineCellModel", "goOn", "()V"⟩, 52), (⟨"EngineCellModel", "stopBy", "(I)V"⟩, 52), (⟨"EngineCellModel", "passes", "(I)V"⟩, 52), (⟨"EngineCellModel", "ramp", "()V"⟩, 52), (⟨"EngineCellModel", "waits", "()Z"⟩, 52), (⟨"EngineCellModel", "isLost", "(II)Z"⟩, 52), (⟨"EngineCellModel", "corrected", "(II)J"⟩, 52), (⟨"EngineCellModel", "raw", "(II)I"⟩, 52), (⟨"EngineCellModel", "isChannel", "(I)Z"⟩, 52)]
theorem lw_r2 : ∀ q ∈ lw_privs_2, lw_okq q := List.forall_mem_cons.mpr ⟨lw_p16, List.forall_mem_cons.mpr ⟨lw_p17, List.forall_mem_cons.mpr ⟨lw_p18, List.forall_mem_cons.mpr ⟨lw_p19, List.forall_mem_cons.mpr ⟨lw_p20, List.forall_mem_cons.mpr ⟨lw_p21, List.forall_mem_cons.mpr ⟨lw_p22, List.forall_mem_cons.mpr ⟨lw_p23, List.forall_mem_cons.mpr ⟨lw_p24, List.forall_mem_cons.mpr ⟨lw_p25, List.forall_mem_cons.mpr ⟨lw_p26, List.forall_mem_cons.mpr ⟨lw_p27, List.forall_mem_cons.mpr ⟨lw_p28, List.forall_mem_cons.mpr ⟨lw_p29, List.forall_mem_cons.mpr ⟨lw_p30, List.forall_mem_cons.mpr ⟨lw_p31, fun _ h => absurd h List.not_mem_nil⟩⟩⟩⟩⟩⟩⟩⟩⟩⟩⟩⟩⟩⟩⟩⟩
theorem lw_p32 : lw_okq (⟨"EngineCellModel", "isRead", "(II)Z"⟩, 52) := ⟨⟨by decide +kernel, by decide +kernel⟩, List.mem_of_getElem? (i := 838) (by decide +kernel), List.mem_of_getElem? (i := 1156) (by decide +kernel), List.mem_of_getElem? (i := 1157) (by decide +kernel)⟩
theorem lw_p33 : lw_okq (⟨"EngineCellModel", "isCut", "(II)Z"⟩, 52) := ⟨⟨by decide +kernel, by decide +kernel⟩, List.mem_of_getElem? (i := 838) (by decide +kernel), List.mem_of_getElem? (i := 1164) (by decide +kernel), List.mem_of_getElem? (i := 1165) (by decide +kernel)⟩
theorem lw_p34 : lw_okq (⟨"EngineCellModel", "makeReport", "(II)V"⟩, 52) := ⟨⟨by decide +kernel, by decide +kernel⟩, List.mem_of_getElem? (i := 838) (by decide +kernel), List.mem_of_getElem? (i := 1173) (by decide +kernel), List.mem_of_getElem? (i := 1174) (by decide +kernel)⟩
theorem lw_p35 : lw_okq (⟨"EngineCellModel", "makeLaw", "(I)V"⟩, 52) := ⟨⟨by decide +kernel, by decide +kernel⟩, List.mem_of_getElem? (i := 838) (by decide +kernel), List.mem_of_getElem? (i := 1190) (by decide +kernel), List.mem_of_getElem? (i := 1191) (by decide +kernel)⟩
theorem lw_p36 : lw_okq (⟨"EngineCellModel", "lost", "(I)J"⟩, 52) := ⟨⟨by decide +kernel, by decide +kernel⟩, List.mem_of_getElem? (i := 838) (by decide +kernel), List.mem_of_getElem? (i := 1219) (by decide +kernel), List.mem_of_getElem? (i := 1220) (by decide +kernel)⟩
theorem lw_p37 : lw_okq (⟨"EngineCellModel", "begins", "(I)V"⟩, 52) := ⟨⟨by decide +kernel, by decide +kernel⟩, List.mem_of_getElem? (i := 838) (by decide +kernel), List.mem_of_getElem? (i := 1227) (by decide +kernel), List.mem_of_getElem? (i := 1228) (by decide +kernel)⟩
def lw_privs_3 : List (MethodName × Nat) := [(⟨"EngineCellModel", "isRead", "(II)Z"⟩, 52), (⟨"EngineCellModel", "isCut", "(II)Z"⟩, 52), (⟨"EngineCellModel", "makeReport", "(II)V"⟩, 52), (⟨"EngineCellModel", "makeLaw", "(I)V"⟩, 52), (⟨"EngineCellModel", "lost", "(I)J"⟩, 52), (⟨"EngineCellModel", "begins", "(I)V"⟩, 52)]
theorem lw_r3 : ∀ q ∈ lw_privs_3, lw_okq q := List.forall_mem_cons.mpr ⟨lw_p32, List.forall_mem_cons.mpr ⟨lw_p33, List.forall_mem_cons.mpr ⟨lw_p34, List.forall_mem_cons.mpr ⟨lw_p35, List.forall_mem_cons.mpr ⟨lw_p36, List.forall_mem_cons.mpr ⟨lw_p37, fun _ h => absurd h List.not_mem_nil⟩⟩⟩⟩⟩⟩
def lw_privs : List (MethodName × Nat) := lw_privs_1 ++ (lw_privs_2 ++ (lw_privs_3))
def lw_tbl : List Cond := k2_sels lw_privs ++ tables_1
theorem lw_privs_ok : ∀ q ∈ lw_privs, lw_okq q := by
  show ∀ q ∈ lw_privs_1 ++ (lw_privs_2 ++ (lw_privs_3)), lw_okq q
  exact List.forall_mem_append.mpr ⟨lw_r1, List.forall_mem_append.mpr ⟨lw_r2, lw_r3⟩⟩
end
section
def RX0 : String := "EngineCell$Bodies"
def TX0 : u_T := fun k => match k with
  | _ => ("EngineCell$Bodies", "trace", "I", false)
def tyX0 : Nat → FieldType := fun k => match k with
  | _ => .int
abbrev wsX00 : List Cond := u_ws RX0 TX0 1
theorem nmX0 : ∀ a, a < 1 → ∀ b, b < 1 → a ≠ b → (TX0 a).2.1 ≠ (TX0 b).2.1 := by decide +kernel
theorem tyX0_ok : ∀ k, k < 1 → parseFieldDescriptor (TX0 k).2.2.1 = some (tyX0 k) := by decide +kernel
abbrev cX0_init : ByteArray := prog_2_method_1_code
def yX0_init : MethodName := ⟨RX0, "<init>", "()V"⟩
abbrev cX0_isA : ByteArray := prog_2_method_2_code
def yX0_isA : MethodName := ⟨RX0, "isA", "(II)Z"⟩
abbrev cX0_telling : ByteArray := prog_2_method_3_code
def yX0_telling : MethodName := ⟨RX0, "telling", "(III)I"⟩
abbrev cX0_drawing : ByteArray := prog_2_method_4_code
def yX0_drawing : MethodName := ⟨RX0, "drawing", "(I)I"⟩
abbrev cX0_leave : ByteArray := prog_2_method_5_code
def yX0_leave : MethodName := ⟨RX0, "leave", "(I)V"⟩
abbrev cX0_holds : ByteArray := prog_2_method_6_code
def yX0_holds : MethodName := ⟨RX0, "holds", "(I)I"⟩
abbrev cX0_ramps : ByteArray := prog_2_method_7_code
def yX0_ramps : MethodName := ⟨RX0, "ramps", "(I)I"⟩
abbrev cX0_waits : ByteArray := prog_2_method_8_code
def yX0_waits : MethodName := ⟨RX0, "waits", "(II)I"⟩
abbrev cX0_loops : ByteArray := prog_2_method_9_code
def yX0_loops : MethodName := ⟨RX0, "loops", "()I"⟩
def RX1 : String := "EngineCell$Channel"
def TX1 : u_T := fun k => match k with
  | 0 => ("EngineCell$Channel", "number", "I", true)
  | 1 => ("EngineCell$Channel", "source", "I", true)
  | 2 => ("EngineCell$Channel", "rate", "I", true)
  | 3 => ("EngineCell$Channel", "delay", "I", true)
  | 4 => ("EngineCell$Channel", "low", "I", true)
  | 5 => ("EngineCell$Channel", "high", "I", true)
  | 6 => ("EngineCell$Channel", "limited", "Z", false)
  | _ => ("EngineCell$Channel", "limit", "I", false)
def tyX1 : Nat → FieldType := fun k => match k with
  | 0 => .int
  | 1 => .int
  | 2 => .int
  | 3 => .int
  | 4 => .int
  | 5 => .int
  | 6 => .boolean
  | _ => .int
abbrev wsX10 : List Cond := u_ws RX1 TX1 8
theorem nmX1 : ∀ a, a < 8 → ∀ b, b < 8 → a ≠ b → (TX1 a).2.1 ≠ (TX1 b).2.1 := by decide +kernel
theorem tyX1_ok : ∀ k, k < 8 → parseFieldDescriptor (TX1 k).2.2.1 = some (tyX1 k) := by decide +kernel
abbrev cX1_init : ByteArray := prog_3_method_1_code
def yX1_init : MethodName := ⟨RX1, "<init>", "(IIIIII)V"⟩
abbrev cX1_readsAt : ByteArray := prog_3_method_2_code
def yX1_readsAt : MethodName := ⟨RX1, "readsAt", "(I)Z"⟩
abbrev cX1_latestAt : ByteArray := prog_3_method_3_code
def yX1_latestAt : MethodName := ⟨RX1, "latestAt", "(I)I"⟩
abbrev cX1_firstFrom : ByteArray := prog_3_method_4_code
def yX1_firstFrom : MethodName := ⟨RX1, "firstFrom", "(I)I"⟩
def RX2 : String := "EngineCell$Channels"
def TX2 : u_T := fun k => match k with
  | 0 => ("EngineCell$Channels", "engine", "LEngineCell$Engine;", true)
  | 1 => ("EngineCell$Channels", "rows", "[LEngineCell$Channel;", true)
  | 2 => ("EngineCell$Channels", "losses", "LEngineCell$Tellings;", true)
  | 3 => ("EngineCell$Channels", "corrections", "LEngineCell$Tellings;", true)
  | _ => ("EngineCell$Channels", "count", "I", false)
def tyX2 : Nat → FieldType := fun k => match k with
  | 0 => .object "EngineCell$Engine"
  | 1 => .array (.object "EngineCell$Channel")
  | 2 => .object "EngineCell$Tellings"
  | 3 => .object "EngineCell$Tellings"
  | _ => .int
abbrev wsX20 : List Cond := u_ws RX2 TX2 5
theorem nmX2 : ∀ a, a < 5 → ∀ b, b < 5 → a ≠ b → (TX2 a).2.1 ≠ (TX2 b).2.1 := by decide +kernel
theorem tyX2_ok : ∀ k, k < 5 → parseFieldDescriptor (TX2 k).2.2.1 = some (tyX2 k) := by decide +kernel
abbrev cX2_init : ByteArray := prog_4_method_1_code
def yX2_init : MethodName := ⟨RX2, "<init>", "(LEngineCell$Engine;)V"⟩
abbrev cX2_add : ByteArray := prog_4_method_2_code
def yX2_add : MethodName := ⟨RX2, "add", "(LEngineCell$Channel;)V"⟩
abbrev cX2_find : ByteArray := prog_4_method_3_code
def yX2_find : MethodName := ⟨RX2, "find", "(I)LEngineCell$Channel;"⟩
abbrev cX2_isLost : ByteArray := prog_4_method_4_code
def yX2_isLost : MethodName := ⟨RX2, "isLost", "(LEngineCell$Channel;I)Z"⟩
abbrev cX2_isFull : ByteArray := prog_4_method_5_code
def yX2_isFull : MethodName := ⟨RX2, "isFull", "(LEngineCell$Channel;I)Z"⟩
abbrev cX2_value : ByteArray := prog_4_method_6_code
def yX2_value : MethodName := ⟨RX2, "value", "(LEngineCell$Channel;I)J"⟩
abbrev cX2_isOneAbove : ByteArray := prog_4_method_7_code
def yX2_isOneAbove : MethodName := ⟨RX2, "isOneAbove", "(I)Z"⟩
def RX3 : String := "EngineCell$Engine"
def TX3 : u_T := fun k => match k with
  | 0 => ("EngineCell$Engine", "map", "[I", true)
  | 1 => ("EngineCell$Engine", "past", "[I", true)
  | 2 => ("EngineCell$Engine", "lag", "I", false)
  | _ => ("EngineCell$Engine", "tick", "I", false)
def tyX3 : Nat → FieldType := fun k => match k with
  | 0 => .array .int
  | 1 => .array .int
  | 2 => .int
  | _ => .int
abbrev wsX30 : List Cond := u_ws RX3 TX3 4
theorem nmX3 : ∀ a, a < 4 → ∀ b, b < 4 → a ≠ b → (TX3 a).2.1 ≠ (TX3 b).2.1 := by decide +kernel
theorem tyX3_ok : ∀ k, k < 4 → parseFieldDescriptor (TX3 k).2.2.1 = some (tyX3 k) := by decide +kernel
abbrev cX3_init : ByteArray := prog_5_method_1_code
def yX3_init : MethodName := ⟨RX3, "<init>", "()V"⟩
abbrev cX3_mapped : ByteArray := prog_5_method_2_code
def yX3_mapped : MethodName := ⟨RX3, "mapped", "(I)I"⟩
abbrev cX3_remap : ByteArray := prog_5_method_3_code
def yX3_remap : MethodName := ⟨RX3, "remap", "(II)V"⟩
abbrev cX3_torqueAt : ByteArray := prog_5_method_4_code
def yX3_torqueAt : MethodName := ⟨RX3, "torqueAt", "(II)I"⟩
abbrev cX3_part : ByteArray := prog_5_method_5_code
def yX3_part : MethodName := ⟨RX3, "part", "(II)I"⟩
abbrev cX3_latest : ByteArray := prog_5_method_6_code
def yX3_latest : MethodName := ⟨RX3, "latest", "(I)I"⟩
abbrev cX3_advance : ByteArray := prog_5_method_7_code
def yX3_advance : MethodName := ⟨RX3, "advance", "(II)V"⟩
abbrev cX3_change : ByteArray := prog_5_method_8_code
def yX3_change : MethodName := ⟨RX3, "change", "(II)I"⟩
def RX4 : String := "EngineCell$Law"
def TX4 : u_T := fun k => match k with
  | 0 => ("EngineCell$Law", "engine", "LEngineCell$Engine;", true)
  | 1 => ("EngineCell$Law", "channels", "LEngineCell$Channels;", true)
  | 2 => ("EngineCell$Law", "n", "J", false)
  | 3 => ("EngineCell$Law", "off", "J", false)
  | 4 => ("EngineCell$Law", "farthest", "J", false)
  | 5 => ("EngineCell$Law", "sumX", "J", false)
  | 6 => ("EngineCell$Law", "sumY", "J", false)
  | 7 => ("EngineCell$Law", "sumXX", "J", false)
  | _ => ("EngineCell$Law", "sumXY", "J", false)
def tyX4 : Nat → FieldType := fun k => match k with
  | 0 => .object "EngineCell$Engine"
  | 1 => .object "EngineCell$Channels"
  | 2 => .long
  | 3 => .long
  | 4 => .long
  | 5 => .long
  | 6 => .long
  | 7 => .long
  | _ => .long
abbrev wsX40 : List Cond := u_ws RX4 TX4 9
theorem nmX4 : ∀ a, a < 9 → ∀ b, b < 9 → a ≠ b → (TX4 a).2.1 ≠ (TX4 b).2.1 := by decide +kernel
theorem tyX4_ok : ∀ k, k < 9 → parseFieldDescriptor (TX4 k).2.2.1 = some (tyX4 k) := by decide +kernel
abbrev cX4_init : ByteArray := prog_6_method_1_code
def yX4_init : MethodName := ⟨RX4, "<init>", "(LEngineCell$Engine;LEngineCell$Channels;)V"⟩
abbrev cX4_reckon : ByteArray := prog_6_method_2_code
def yX4_reckon : MethodName := ⟨RX4, "reckon", "(LEngineCell$Channel;)V"⟩
abbrev cX4_count : ByteArray := prog_6_method_3_code
def yX4_count : MethodName := ⟨RX4, "count", "(JJ)V"⟩
abbrev cX4_a : ByteArray := prog_6_method_4_code
def yX4_a : MethodName := ⟨RX4, "a", "()J"⟩
abbrev cX4_b : ByteArray := prog_6_method_5_code
def yX4_b : MethodName := ⟨RX4, "b", "()J"⟩
abbrev cX4_verdict : ByteArray := prog_6_method_6_code
def yX4_verdict : MethodName := ⟨RX4, "verdict", "()I"⟩
def RX5 : String := "EngineCell$Marks"
def TX5 : u_T := fun k => match k with
  | 0 => ("EngineCell$Marks", "ticks", "[I", true)
  | _ => ("EngineCell$Marks", "count", "I", false)
def tyX5 : Nat → FieldType := fun k => match k with
  | 0 => .array .int
  | _ => .int
abbrev wsX50 : List Cond := u_ws RX5 TX5 2
theorem nmX5 : ∀ a, a < 2 → ∀ b, b < 2 → a ≠ b → (TX5 a).2.1 ≠ (TX5 b).2.1 := by decide +kernel
theorem tyX5_ok : ∀ k, k < 2 → parseFieldDescriptor (TX5 k).2.2.1 = some (tyX5 k) := by decide +kernel
abbrev cX5_init : ByteArray := prog_7_method_1_code
def yX5_init : MethodName := ⟨RX5, "<init>", "()V"⟩
abbrev cX5_add : ByteArray := prog_7_method_2_code
def yX5_add : MethodName := ⟨RX5, "add", "(I)V"⟩
abbrev cX5_has : ByteArray := prog_7_method_3_code
def yX5_has : MethodName := ⟨RX5, "has", "(I)Z"⟩
abbrev cX5_first : ByteArray := prog_7_method_4_code
def yX5_first : MethodName := ⟨RX5, "first", "(I)I"⟩
abbrev cX5_last : ByteArray := prog_7_method_5_code
def yX5_last : MethodName := ⟨RX5, "last", "(II)I"⟩
def RX6 : String := "EngineCell$Program"
def TX6 : u_T := fun k => match k with
  | 0 => ("EngineCell$Program", "cells", "[I", true)
  | _ => ("EngineCell$Program", "count", "I", false)
def tyX6 : Nat → FieldType := fun k => match k with
  | 0 => .array .int
  | _ => .int
abbrev wsX60 : List Cond := u_ws RX6 TX6 2
theorem nmX6 : ∀ a, a < 2 → ∀ b, b < 2 → a ≠ b → (TX6 a).2.1 ≠ (TX6 b).2.1 := by decide +kernel
theorem tyX6_ok : ∀ k, k < 2 → parseFieldDescriptor (TX6 k).2.2.1 = some (tyX6 k) := by decide +kernel
abbrev cX6_init : ByteArray := prog_8_method_1_code
def yX6_init : MethodName := ⟨RX6, "<init>", "()V"⟩
abbrev cX6_fits : ByteArray := prog_8_method_2_code
def yX6_fits : MethodName := ⟨RX6, "fits", "(IIIII)Z"⟩
abbrev cX6_has : ByteArray := prog_8_method_3_code
def yX6_has : MethodName := ⟨RX6, "has", "(I)Z"⟩
abbrev cX6_cell : ByteArray := prog_8_method_4_code
def yX6_cell : MethodName := ⟨RX6, "cell", "(II)I"⟩
abbrev cX6_add : ByteArray := prog_8_method_5_code
def yX6_add : MethodName := ⟨RX6, "add", "(IIII)V"⟩
abbrev cX6_fitAll : ByteArray := prog_8_method_6_code
def yX6_fitAll : MethodName := ⟨RX6, "fitAll", "(LEngineCell$Sheet;II)Z"⟩
abbrev cX6_addAll : ByteArray := prog_8_method_7_code
def yX6_addAll : MethodName := ⟨RX6, "addAll", "(LEngineCell$Sheet;II)V"⟩
def RX7 : String := "EngineCell$Reports"
def TX7 : u_T := fun k => match k with
  | 0 => ("EngineCell$Reports", "engine", "LEngineCell$Engine;", true)
  | 1 => ("EngineCell$Reports", "channels", "LEngineCell$Channels;", true)
  | 2 => ("EngineCell$Reports", "marks", "LEngineCell$Marks;", true)
  | 3 => ("EngineCell$Reports", "row", "[J", true)
  | 4 => ("EngineCell$Reports", "ahead", "[J", true)
  | 5 => ("EngineCell$Reports", "others", "[I", true)
  | _ => ("EngineCell$Reports", "otherCount", "I", false)
def tyX7 : Nat → FieldType := fun k => match k with
  | 0 => .object "EngineCell$Engine"
  | 1 => .object "EngineCell$Channels"
  | 2 => .object "EngineCell$Marks"
  | 3 => .array .long
  | 4 => .array .long
  | 5 => .array .int
  | _ => .int
abbrev wsX70 : List Cond := u_ws RX7 TX7 7
theorem nmX7 : ∀ a, a < 7 → ∀ b, b < 7 → a ≠ b → (TX7 a).2.1 ≠ (TX7 b).2.1 := by decide +kernel
theorem tyX7_ok : ∀ k, k < 7 → parseFieldDescriptor (TX7 k).2.2.1 = some (tyX7 k) := by decide +kernel
abbrev cX7_init : ByteArray := prog_9_method_1_code
def yX7_init : MethodName := ⟨RX7, "<init>", "(LEngineCell$Engine;LEngineCell$Channels;LEngineCell$Marks;)V"⟩
abbrev cX7_number : ByteArray := prog_9_method_2_code
def yX7_number : MethodName := ⟨RX7, "number", "(I)J"⟩
abbrev cX7_otherAt : ByteArray := prog_9_method_3_code
def yX7_otherAt : MethodName := ⟨RX7, "otherAt", "(I)I"⟩
abbrev cX7_reckon : ByteArray := prog_9_method_4_code
def yX7_reckon : MethodName := ⟨RX7, "reckon", "(LEngineCell$Channel;I)V"⟩
abbrev cX7_join : ByteArray := prog_9_method_5_code
def yX7_join : MethodName := ⟨RX7, "join", "(IIJ)V"⟩
abbrev cX7_count : ByteArray := prog_9_method_6_code
def yX7_count : MethodName := ⟨RX7, "count", "(JZ)V"⟩
abbrev cX7_keepAhead : ByteArray := prog_9_method_7_code
def yX7_keepAhead : MethodName := ⟨RX7, "keepAhead", "(LEngineCell$Channel;)V"⟩
abbrev cX7_nameOthers : ByteArray := prog_9_method_8_code
def yX7_nameOthers : MethodName := ⟨RX7, "nameOthers", "(LEngineCell$Channel;)V"⟩
abbrev cX7_name : ByteArray := prog_9_method_9_code
def yX7_name : MethodName := ⟨RX7, "name", "(I)V"⟩
def RX8 : String := "EngineCell$Room"
def TX8 : u_T := fun k => match k with
  | 0 => ("EngineCell$Room", "engine", "LEngineCell$Engine;", true)
  | 1 => ("EngineCell$Room", "program", "LEngineCell$Program;", true)
  | 2 => ("EngineCell$Room", "channels", "LEngineCell$Channels;", true)
  | 3 => ("EngineCell$Room", "marks", "LEngineCell$Marks;", true)
  | 4 => ("EngineCell$Room", "ledBack", "[I", true)
  | 5 => ("EngineCell$Room", "state", "I", false)
  | 6 => ("EngineCell$Room", "at", "I", false)
  | 7 => ("EngineCell$Room", "kind", "I", false)
  | 8 => ("EngineCell$Room", "acts", "I", false)
  | 9 => ("EngineCell$Room", "spent", "I", false)
  | 10 => ("EngineCell$Room", "wanted", "I", false)
  | 11 => ("EngineCell$Room", "pedal", "I", false)
  | 12 => ("EngineCell$Room", "wantedAtFirst", "I", false)
  | _ => ("EngineCell$Room", "pedalAtFirst", "I", false)
def tyX8 : Nat → FieldType := fun k => match k with
  | 0 => .object "EngineCell$Engine"
  | 1 => .object "EngineCell$Program"
  | 2 => .object "EngineCell$Channels"
  | 3 => .object "EngineCell$Marks"
  | 4 => .array .int
  | 5 => .int
  | 6 => .int
  | 7 => .int
  | 8 => .int
  | 9 => .int
  | 10 => .int
  | 11 => .int
  | 12 => .int
  | _ => .int
abbrev wsX80 : List Cond := u_ws RX8 TX8 14
theorem nmX8 : ∀ a, a < 14 → ∀ b, b < 14 → a ≠ b → (TX8 a).2.1 ≠ (TX8 b).2.1 := by decide +kernel
theorem tyX8_ok : ∀ k, k < 14 → parseFieldDescriptor (TX8 k).2.2.1 = some (tyX8 k) := by decide +kernel
abbrev cX8_init : ByteArray := prog_10_method_1_code
def yX8_init : MethodName := ⟨RX8, "<init>", "(LEngineCell$Engine;LEngineCell$Program;LEngineCell$Channels;LEngineCell$Marks;)V"⟩
abbrev cX8_isOff : ByteArray := prog_10_method_2_code
def yX8_isOff : MethodName := ⟨RX8, "isOff", "()Z"⟩
abbrev cX8_isGoing : ByteArray := prog_10_method_3_code
def yX8_isGoing : MethodName := ⟨RX8, "isGoing", "()Z"⟩
abbrev cX8_rest : ByteArray := prog_10_method_4_code
def yX8_rest : MethodName := ⟨RX8, "rest", "()V"⟩
abbrev cX8_begin : ByteArray := prog_10_method_5_code
def yX8_begin : MethodName := ⟨RX8, "begin", "()V"⟩
abbrev cX8_halt : ByteArray := prog_10_method_6_code
def yX8_halt : MethodName := ⟨RX8, "halt", "(I)V"⟩
abbrev cX8_oneTick : ByteArray := prog_10_method_7_code
def yX8_oneTick : MethodName := ⟨RX8, "oneTick", "()V"⟩
abbrev cX8_goOn : ByteArray := prog_10_method_8_code
def yX8_goOn : MethodName := ⟨RX8, "goOn", "()V"⟩
abbrev cX8_comeTo : ByteArray := prog_10_method_9_code
def yX8_comeTo : MethodName := ⟨RX8, "comeTo", "(I)V"⟩
abbrev cX8_spend : ByteArray := prog_10_method_10_code
def yX8_spend : MethodName := ⟨RX8, "spend", "()V"⟩
abbrev cX8_ramp : ByteArray := prog_10_method_11_code
def yX8_ramp : MethodName := ⟨RX8, "ramp", "()V"⟩
abbrev cX8_isWaitOver : ByteArray := prog_10_method_12_code
def yX8_isWaitOver : MethodName := ⟨RX8, "isWaitOver", "()Z"⟩
abbrev cX8_loop : ByteArray := prog_10_method_13_code
def yX8_loop : MethodName := ⟨RX8, "loop", "()V"⟩
def RX9 : String := "EngineCell$Sheet"
def TX9 : u_T := fun k => match k with
  | 0 => ("EngineCell$Sheet", "cells", "[I", true)
  | 1 => ("EngineCell$Sheet", "length", "I", false)
  | 2 => ("EngineCell$Sheet", "lane", "I", false)
  | _ => ("EngineCell$Sheet", "there", "Z", false)
def tyX9 : Nat → FieldType := fun k => match k with
  | 0 => .array .int
  | 1 => .int
  | 2 => .int
  | _ => .boolean
abbrev wsX90 : List Cond := u_ws RX9 TX9 4
theorem nmX9 : ∀ a, a < 4 → ∀ b, b < 4 → a ≠ b → (TX9 a).2.1 ≠ (TX9 b).2.1 := by decide +kernel
theorem tyX9_ok : ∀ k, k < 4 → parseFieldDescriptor (TX9 k).2.2.1 = some (tyX9 k) := by decide +kernel
abbrev cX9_init : ByteArray := prog_11_method_1_code
def yX9_init : MethodName := ⟨RX9, "<init>", "()V"⟩
abbrev cX9_renew : ByteArray := prog_11_method_2_code
def yX9_renew : MethodName := ⟨RX9, "renew", "(II)V"⟩
abbrev cX9_faultAs : ByteArray := prog_11_method_3_code
def yX9_faultAs : MethodName := ⟨RX9, "faultAs", "(I)I"⟩
abbrev cX9_faultFrom : ByteArray := prog_11_method_4_code
def yX9_faultFrom : MethodName := ⟨RX9, "faultFrom", "(IJ)I"⟩
abbrev cX9_cell : ByteArray := prog_11_method_5_code
def yX9_cell : MethodName := ⟨RX9, "cell", "(I)I"⟩
abbrev cX9_write : ByteArray := prog_11_method_6_code
def yX9_write : MethodName := ⟨RX9, "write", "(II)V"⟩
def RX10 : String := "EngineCell$Tellings"
def TX10 : u_T := fun k => match k with
  | 0 => ("EngineCell$Tellings", "channels", "[I", true)
  | 1 => ("EngineCell$Tellings", "froms", "[I", true)
  | 2 => ("EngineCell$Tellings", "firsts", "[I", true)
  | 3 => ("EngineCell$Tellings", "seconds", "[I", true)
  | _ => ("EngineCell$Tellings", "count", "I", false)
def tyX10 : Nat → FieldType := fun k => match k with
  | 0 => .array .int
  | 1 => .array .int
  | 2 => .array .int
  | 3 => .array .int
  | _ => .int
abbrev wsX100 : List Cond := u_ws RX10 TX10 5
theorem nmX10 : ∀ a, a < 5 → ∀ b, b < 5 → a ≠ b → (TX10 a).2.1 ≠ (TX10 b).2.1 := by decide +kernel
theorem tyX10_ok : ∀ k, k < 5 → parseFieldDescriptor (TX10 k).2.2.1 = some (tyX10 k) := by decide +kernel
abbrev cX10_init : ByteArray := prog_12_method_1_code
def yX10_init : MethodName := ⟨RX10, "<init>", "()V"⟩
abbrev cX10_add : ByteArray := prog_12_method_2_code
def yX10_add : MethodName := ⟨RX10, "add", "(IIII)V"⟩
abbrev cX10_covers : ByteArray := prog_12_method_3_code
def yX10_covers : MethodName := ⟨RX10, "covers", "(II)Z"⟩
abbrev cX10_apply : ByteArray := prog_12_method_4_code
def yX10_apply : MethodName := ⟨RX10, "apply", "(III)I"⟩
def RX11 : String := "EngineCell"
def TX11 : u_T := fun k => match k with
  | 0 => ("EngineCell", "engine", "LEngineCell$Engine;", true)
  | 1 => ("EngineCell", "program", "LEngineCell$Program;", true)
  | 2 => ("EngineCell", "channels", "LEngineCell$Channels;", true)
  | 3 => ("EngineCell", "marks", "LEngineCell$Marks;", true)
  | 4 => ("EngineCell", "room", "LEngineCell$Room;", true)
  | 5 => ("EngineCell", "reports", "LEngineCell$Reports;", true)
  | 6 => ("EngineCell", "rule", "LEngineCell$Law;", true)
  | 7 => ("EngineCell", "bodies", "LEngineCell$Bodies;", true)
  | 8 => ("EngineCell", "sheets", "[LEngineCell$Sheet;", true)
  | _ => ("EngineCell", "fault", "I", false)
def tyX11 : Nat → FieldType := fun k => match k with
  | 0 => .object "EngineCell$Engine"
  | 1 => .object "EngineCell$Program"
  | 2 => .object "EngineCell$Channels"
  | 3 => .object "EngineCell$Marks"
  | 4 => .object "EngineCell$Room"
  | 5 => .object "EngineCell$Reports"
  | 6 => .object "EngineCell$Law"
  | 7 => .object "EngineCell$Bodies"
  | 8 => .array (.object "EngineCell$Sheet")
  | _ => .int
abbrev wsX110 : List Cond := u_ws RX11 TX11 10
theorem nmX11 : ∀ a, a < 10 → ∀ b, b < 10 → a ≠ b → (TX11 a).2.1 ≠ (TX11 b).2.1 := by decide +kernel
theorem tyX11_ok : ∀ k, k < 10 → parseFieldDescriptor (TX11 k).2.2.1 = some (tyX11 k) := by decide +kernel
abbrev cX11_init : ByteArray := prog_1_method_1_code
def yX11_init : MethodName := ⟨RX11, "<init>", "()V"⟩
abbrev cX11_map : ByteArray := prog_1_method_2_code
def yX11_map : MethodName := ⟨RX11, "map", "(II)I"⟩
abbrev cX11_torque : ByteArray := prog_1_method_3_code
def yX11_torque : MethodName := ⟨RX11, "torque", "(II)J"⟩
abbrev cX11_lag : ByteArray := prog_1_method_4_code
def yX11_lag : MethodName := ⟨RX11, "lag", "(I)I"⟩
abbrev cX11_step : ByteArray := prog_1_method_5_code
def yX11_step : MethodName := ⟨RX11, "step", "(IIII)I"⟩
abbrev cX11_load : ByteArray := prog_1_method_6_code
def yX11_load : MethodName := ⟨RX11, "load", "(IIII)I"⟩
abbrev cX11_clear : ByteArray := prog_1_method_7_code
def yX11_clear : MethodName := ⟨RX11, "clear", "()I"⟩
abbrev cX11_stepped : ByteArray := prog_1_method_8_code
def yX11_stepped : MethodName := ⟨RX11, "stepped", "(II)I"⟩
abbrev cX11_start : ByteArray := prog_1_method_9_code
def yX11_start : MethodName := ⟨RX11, "start", "()I"⟩
abbrev cX11_tick : ByteArray := prog_1_method_10_code
def yX11_tick : MethodName := ⟨RX11, "tick", "(I)I"⟩
abbrev cX11_stop : ByteArray := prog_1_method_11_code
def yX11_stop : MethodName := ⟨RX11, "stop", "()I"⟩
abbrev cX11_reset : ByteArray := prog_1_method_12_code
def yX11_reset : MethodName := ⟨RX11, "reset", "()I"⟩
abbrev cX11_told : ByteArray := prog_1_method_13_code
def yX11_told : MethodName := ⟨RX11, "told", "(I)I"⟩
abbrev cX11_was : ByteArray := prog_1_method_14_code
def yX11_was : MethodName := ⟨RX11, "was", "(II)I"⟩
abbrev cX11_mark : ByteArray := prog_1_method_15_code
def yX11_mark : MethodName := ⟨RX11, "mark", "(I)I"⟩
abbrev cX11_channel : ByteArray := prog_1_method_16_code
def yX11_channel : MethodName := ⟨RX11, "channel", "(IIIII)I"⟩
abbrev cX11_limit : ByteArray := prog_1_method_17_code
def yX11_limit : MethodName := ⟨RX11, "limit", "(II)I"⟩
abbrev cX11_lose : ByteArray := prog_1_method_18_code
def yX11_lose : MethodName := ⟨RX11, "lose", "(III)I"⟩
abbrev cX11_correct : ByteArray := prog_1_method_19_code
def yX11_correct : MethodName := ⟨RX11, "correct", "(IIII)I"⟩
abbrev cX11_other : ByteArray := prog_1_method_20_code
def yX11_other : MethodName := ⟨RX11, "other", "(I)I"⟩
abbrev cX11_reading : ByteArray := prog_1_method_21_code
def yX11_reading : MethodName := ⟨RX11, "reading", "(II)J"⟩
abbrev cX11_state : ByteArray := prog_1_method_22_code
def yX11_state : MethodName := ⟨RX11, "state", "(II)I"⟩
abbrev cX11_report : ByteArray := prog_1_method_23_code
def yX11_report : MethodName := ⟨RX11, "report", "(III)J"⟩
abbrev cX11_valid : ByteArray := prog_1_method_24_code
def yX11_valid : MethodName := ⟨RX11, "valid", "(I)I"⟩
abbrev cX11_law : ByteArray := prog_1_method_25_code
def yX11_law : MethodName := ⟨RX11, "law", "(II)J"⟩
abbrev cX11_sheet : ByteArray := prog_1_method_26_code
def yX11_sheet : MethodName := ⟨RX11, "sheet", "(III)I"⟩
abbrev cX11_drop : ByteArray := prog_1_method_27_code
def yX11_drop : MethodName := ⟨RX11, "drop", "(I)I"⟩
abbrev cX11_put : ByteArray := prog_1_method_28_code
def yX11_put : MethodName := ⟨RX11, "put", "(III)I"⟩
abbrev cX11_at : ByteArray := prog_1_method_29_code
def yX11_at : MethodName := ⟨RX11, "at", "(III)J"⟩
abbrev cX11_tell : ByteArray := prog_1_method_30_code
def yX11_tell : MethodName := ⟨RX11, "tell", "(I)I"⟩
abbrev cX11_draw : ByteArray := prog_1_method_31_code
def yX11_draw : MethodName := ⟨RX11, "draw", "(I)I"⟩
abbrev cX11_as : ByteArray := prog_1_method_32_code
def yX11_as : MethodName := ⟨RX11, "as", "(II)I"⟩
abbrev cX11_trace : ByteArray := prog_1_method_33_code
def yX11_trace : MethodName := ⟨RX11, "trace", "()I"⟩
abbrev cX11_fault : ByteArray := prog_1_method_34_code
def yX11_fault : MethodName := ⟨RX11, "fault", "()I"⟩
abbrev cX11_faulted : ByteArray := prog_1_method_35_code
def yX11_faulted : MethodName := ⟨RX11, "faulted", "(I)I"⟩
abbrev cX11_findSheet : ByteArray := prog_1_method_36_code
def yX11_findSheet : MethodName := ⟨RX11, "findSheet", "(I)LEngineCell$Sheet;"⟩
abbrev cX11_within : ByteArray := prog_1_method_37_code
def yX11_within : MethodName := ⟨RX11, "within", "(III)Z"⟩
def RX12 : String := "EngineCellModel"
def TX12 : u_T := fun k => match k with
  | 0 => ("EngineCellModel", "fault", "I", false)
  | 1 => ("EngineCellModel", "trace", "I", false)
  | 2 => ("EngineCellModel", "map", "[I", true)
  | 3 => ("EngineCellModel", "lag", "I", false)
  | 4 => ("EngineCellModel", "room", "I", false)
  | 5 => ("EngineCellModel", "tick", "I", false)
  | 6 => ("EngineCellModel", "at", "I", false)
  | 7 => ("EngineCellModel", "inStep", "I", false)
  | 8 => ("EngineCellModel", "beginSpeed", "I", false)
  | 9 => ("EngineCellModel", "beginPedal", "I", false)
  | 10 => ("EngineCellModel", "kind", "I", false)
  | 11 => ("EngineCellModel", "acts", "I", false)
  | 12 => ("EngineCellModel", "was", "[I", true)
  | 13 => ("EngineCellModel", "steps", "I", false)
  | 14 => ("EngineCellModel", "stepKind", "[I", true)
  | 15 => ("EngineCellModel", "stepA", "[I", true)
  | 16 => ("EngineCellModel", "stepB", "[I", true)
  | 17 => ("EngineCellModel", "stepC", "[I", true)
  | 18 => ("EngineCellModel", "led", "[I", true)
  | 19 => ("EngineCellModel", "lanes", "[I", true)
  | 20 => ("EngineCellModel", "sheetLong", "[I", true)
  | 21 => ("EngineCellModel", "cells", "[I", true)
  | 22 => ("EngineCellModel", "marks", "I", false)
  | 23 => ("EngineCellModel", "markTick", "[I", true)
  | 24 => ("EngineCellModel", "wantedSpeed", "I", false)
  | 25 => ("EngineCellModel", "pedal", "I", false)
  | 26 => ("EngineCellModel", "channels", "I", false)
  | 27 => ("EngineCellModel", "source", "[I", true)
  | 28 => ("EngineCellModel", "rate", "[I", true)
  | 29 => ("EngineCellModel", "delay", "[I", true)
  | 30 => ("EngineCellModel", "low", "[I", true)
  | 31 => ("EngineCellModel", "high", "[I", true)
  | 32 => ("EngineCellModel", "hasLimit", "[Z", true)
  | 33 => ("EngineCellModel", "limits", "[I", true)
  | 34 => ("EngineCellModel", "losses", "I", false)
  | 35 => ("EngineCellModel", "lossOf", "[I", true)
  | 36 => ("EngineCellModel", "lossFrom", "[I", true)
  | 37 => ("EngineCellModel", "lossTo", "[I", true)
  | 38 => ("EngineCellModel", "corrections", "I", false)
  | 39 => ("EngineCellModel", "correctOf", "[I", true)
  | 40 => ("EngineCellModel", "correctFrom", "[I", true)
  | 41 => ("EngineCellModel", "correctBy", "[I", true)
  | 42 => ("EngineCellModel", "correctMore", "[I", true)
  | 43 => ("EngineCellModel", "numbers", "[J", true)
  | 44 => ("EngineCellModel", "others", "I", false)
  | 45 => ("EngineCellModel", "otherAt", "[I", true)
  | 46 => ("EngineCellModel", "kept", "[J", true)
  | 47 => ("EngineCellModel", "lawN", "J", false)
  | 48 => ("EngineCellModel", "lawA", "J", false)
  | 49 => ("EngineCellModel", "lawB", "J", false)
  | 50 => ("EngineCellModel", "lawSum", "J", false)
  | _ => ("EngineCellModel", "lawMost", "J", false)
def tyX12 : Nat → FieldType := fun k => match k with
  | 0 => .int
  | 1 => .int
  | 2 => .array .int
  | 3 => .int
  | 4 => .int
  | 5 => .int
  | 6 => .int
  | 7 => .int
  | 8 => .int
  | 9 => .int
  | 10 => .int
  | 11 => .int
  | 12 => .array .int
  | 13 => .int
  | 14 => .array .int
  | 15 => .array .int
  | 16 => .array .int
  | 17 => .array .int
  | 18 => .array .int
  | 19 => .array .int
  | 20 => .array .int
  | 21 => .array .int
  | 22 => .int
  | 23 => .array .int
  | 24 => .int
  | 25 => .int
  | 26 => .int
  | 27 => .array .int
  | 28 => .array .int
  | 29 => .array .int
  | 30 => .array .int
  | 31 => .array .int
  | 32 => .array .boolean
  | 33 => .array .int
  | 34 => .int
  | 35 => .array .int
  | 36 => .array .int
  | 37 => .array .int
  | 38 => .int
  | 39 => .array .int
  | 40 => .array .int
  | 41 => .array .int
  | 42 => .array .int
  | 43 => .array .long
  | 44 => .int
  | 45 => .array .int
  | 46 => .array .long
  | 47 => .long
  | 48 => .long
  | 49 => .long
  | 50 => .long
  | _ => .long
abbrev wsX120 : List Cond := u_ws RX12 TX12 52
theorem nmX12 : ∀ a, a < 52 → ∀ b, b < 52 → a ≠ b → (TX12 a).2.1 ≠ (TX12 b).2.1 := by decide +kernel
theorem tyX12_ok : ∀ k, k < 52 → parseFieldDescriptor (TX12 k).2.2.1 = some (tyX12 k) := by decide +kernel
abbrev cX12_init : ByteArray := prog_14_method_1_code
def yX12_init : MethodName := ⟨RX12, "<init>", "()V"⟩
abbrev cX12_fails : ByteArray := prog_14_method_3_code
def yX12_fails : MethodName := ⟨RX12, "fails", "(I)I"⟩
abbrev cX12_lost : ByteArray := prog_14_method_4_code
def yX12_lost : MethodName := ⟨RX12, "lost", "(I)J"⟩
abbrev cX12_within : ByteArray := prog_14_method_5_code
def yX12_within : MethodName := ⟨RX12, "within", "(JJJ)Z"⟩
abbrev cX12_map : ByteArray := prog_14_method_6_code
def yX12_map : MethodName := ⟨RX12, "map", "(II)I"⟩
abbrev cX12_torqueAt : ByteArray := prog_14_method_7_code
def yX12_torqueAt : MethodName := ⟨RX12, "torqueAt", "(II)I"⟩
abbrev cX12_torque : ByteArray := prog_14_method_8_code
def yX12_torque : MethodName := ⟨RX12, "torque", "(II)J"⟩
abbrev cX12_lag : ByteArray := prog_14_method_9_code
def yX12_lag : MethodName := ⟨RX12, "lag", "(I)I"⟩
abbrev cX12_mayStand : ByteArray := prog_14_method_10_code
def yX12_mayStand : MethodName := ⟨RX12, "mayStand", "(IIIII)Z"⟩
abbrev cX12_addStep : ByteArray := prog_14_method_11_code
def yX12_addStep : MethodName := ⟨RX12, "addStep", "(IIII)V"⟩
abbrev cX12_step : ByteArray := prog_14_method_12_code
def yX12_step : MethodName := ⟨RX12, "step", "(IIII)I"⟩
abbrev cX12_load : ByteArray := prog_14_method_13_code
def yX12_load : MethodName := ⟨RX12, "load", "(IIII)I"⟩
abbrev cX12_clear : ByteArray := prog_14_method_14_code
def yX12_clear : MethodName := ⟨RX12, "clear", "()I"⟩
abbrev cX12_isStep : ByteArray := prog_14_method_15_code
def yX12_isStep : MethodName := ⟨RX12, "isStep", "(I)Z"⟩
abbrev cX12_stepped : ByteArray := prog_14_method_16_code
def yX12_stepped : MethodName := ⟨RX12, "stepped", "(II)I"⟩
abbrev cX12_start : ByteArray := prog_14_method_17_code
def yX12_start : MethodName := ⟨RX12, "start", "()I"⟩
abbrev cX12_stopBy : ByteArray := prog_14_method_18_code
def yX12_stopBy : MethodName := ⟨RX12, "stopBy", "(I)V"⟩
abbrev cX12_goOn : ByteArray := prog_14_method_19_code
def yX12_goOn : MethodName := ⟨RX12, "goOn", "()V"⟩
abbrev cX12_passes : ByteArray := prog_14_method_20_code
def yX12_passes : MethodName := ⟨RX12, "passes", "(I)V"⟩
abbrev cX12_ramp : ByteArray := prog_14_method_21_code
def yX12_ramp : MethodName := ⟨RX12, "ramp", "()V"⟩
abbrev cX12_waits : ByteArray := prog_14_method_22_code
def yX12_waits : MethodName := ⟨RX12, "waits", "()Z"⟩
abbrev cX12_turn : ByteArray := prog_14_method_23_code
def yX12_turn : MethodName := ⟨RX12, "turn", "()V"⟩
abbrev cX12_tick : ByteArray := prog_14_method_24_code
def yX12_tick : MethodName := ⟨RX12, "tick", "(I)I"⟩
abbrev cX12_stop : ByteArray := prog_14_method_25_code
def yX12_stop : MethodName := ⟨RX12, "stop", "()I"⟩
abbrev cX12_reset : ByteArray := prog_14_method_26_code
def yX12_reset : MethodName := ⟨RX12, "reset", "()I"⟩
abbrev cX12_told : ByteArray := prog_14_method_27_code
def yX12_told : MethodName := ⟨RX12, "told", "(I)I"⟩
abbrev cX12_was : ByteArray := prog_14_method_28_code
def yX12_was : MethodName := ⟨RX12, "was", "(II)I"⟩
abbrev cX12_mark : ByteArray := prog_14_method_29_code
def yX12_mark : MethodName := ⟨RX12, "mark", "(I)I"⟩
abbrev cX12_isChannel : ByteArray := prog_14_method_30_code
def yX12_isChannel : MethodName := ⟨RX12, "isChannel", "(I)Z"⟩
abbrev cX12_channel : ByteArray := prog_14_method_31_code
def yX12_channel : MethodName := ⟨RX12, "channel", "(IIIII)I"⟩
abbrev cX12_limit : ByteArray := prog_14_method_32_code
def yX12_limit : MethodName := ⟨RX12, "limit", "(II)I"⟩
abbrev cX12_lose : ByteArray := prog_14_method_33_code
def yX12_lose : MethodName := ⟨RX12, "lose", "(III)I"⟩
abbrev cX12_isLost : ByteArray := prog_14_method_34_code
def yX12_isLost : MethodName := ⟨RX12, "isLost", "(II)Z"⟩
abbrev cX12_raw : ByteArray := prog_14_method_35_code
def yX12_raw : MethodName := ⟨RX12, "raw", "(II)I"⟩
abbrev cX12_isCut : ByteArray := prog_14_method_36_code
def yX12_isCut : MethodName := ⟨RX12, "isCut", "(II)Z"⟩
abbrev cX12_corrected : ByteArray := prog_14_method_37_code
def yX12_corrected : MethodName := ⟨RX12, "corrected", "(II)J"⟩
abbrev cX12_isRead : ByteArray := prog_14_method_38_code
def yX12_isRead : MethodName := ⟨RX12, "isRead", "(II)Z"⟩
abbrev cX12_reading : ByteArray := prog_14_method_39_code
def yX12_reading : MethodName := ⟨RX12, "reading", "(II)J"⟩
abbrev cX12_state : ByteArray := prog_14_method_40_code
def yX12_state : MethodName := ⟨RX12, "state", "(II)I"⟩
abbrev cX12_makeReport : ByteArray := prog_14_method_41_code
def yX12_makeReport : MethodName := ⟨RX12, "makeReport", "(II)V"⟩
abbrev cX12_report : ByteArray := prog_14_method_42_code
def yX12_report : MethodName := ⟨RX12, "report", "(III)J"⟩
abbrev cX12_correct : ByteArray := prog_14_method_43_code
def yX12_correct : MethodName := ⟨RX12, "correct", "(IIII)I"⟩
abbrev cX12_other : ByteArray := prog_14_method_44_code
def yX12_other : MethodName := ⟨RX12, "other", "(I)I"⟩
abbrev cX12_makeLaw : ByteArray := prog_14_method_45_code
def yX12_makeLaw : MethodName := ⟨RX12, "makeLaw", "(I)V"⟩
abbrev cX12_valid : ByteArray := prog_14_method_46_code
def yX12_valid : MethodName := ⟨RX12, "valid", "(I)I"⟩
abbrev cX12_law : ByteArray := prog_14_method_47_code
def yX12_law : MethodName := ⟨RX12, "law", "(II)J"⟩
abbrev cX12_sheet : ByteArray := prog_14_method_48_code
def yX12_sheet : MethodName := ⟨RX12, "sheet", "(III)I"⟩
abbrev cX12_drop : ByteArray := prog_14_method_49_code
def yX12_drop : MethodName := ⟨RX12, "drop", "(I)I"⟩
abbrev cX12_put : ByteArray := prog_14_method_50_code
def yX12_put : MethodName := ⟨RX12, "put", "(III)I"⟩
abbrev cX12_at : ByteArray := prog_14_method_51_code
def yX12_at : MethodName := ⟨RX12, "at", "(III)J"⟩
abbrev cX12_begins : ByteArray := prog_14_method_52_code
def yX12_begins : MethodName := ⟨RX12, "begins", "(I)V"⟩
abbrev cX12_tell : ByteArray := prog_14_method_53_code
def yX12_tell : MethodName := ⟨RX12, "tell", "(I)I"⟩
abbrev cX12_draw : ByteArray := prog_14_method_54_code
def yX12_draw : MethodName := ⟨RX12, "draw", "(I)I"⟩
abbrev cX12_as : ByteArray := prog_14_method_55_code
def yX12_as : MethodName := ⟨RX12, "as", "(II)I"⟩
abbrev cX12_trace : ByteArray := prog_14_method_56_code
def yX12_trace : MethodName := ⟨RX12, "trace", "()I"⟩
abbrev cX12_fault : ByteArray := prog_14_method_57_code
def yX12_fault : MethodName := ⟨RX12, "fault", "()I"⟩
def RJ6 : String := "java/lang/Integer"
abbrev cJ6_compare_7cf53 : ByteArray := prog_15_method_40_code
def yJ6_compare_7cf53 : MethodName := ⟨RJ6, "compare", "(II)I"⟩
def RJ9 : String := "java/lang/Math"
abbrev cJ9_abs_067f4 : ByteArray := prog_16_method_61_code
def yJ9_abs_067f4 : MethodName := ⟨RJ9, "abs", "(J)J"⟩
abbrev cJ9_max_7cf53 : ByteArray := prog_16_method_65_code
def yJ9_max_7cf53 : MethodName := ⟨RJ9, "max", "(II)I"⟩
abbrev cJ9_max_f86c9 : ByteArray := prog_16_method_66_code
def yJ9_max_f86c9 : MethodName := ⟨RJ9, "max", "(JJ)J"⟩
abbrev cJ9_min_7cf53 : ByteArray := prog_16_method_69_code
def yJ9_min_7cf53 : MethodName := ⟨RJ9, "min", "(II)I"⟩
abbrev cJ9_min_f86c9 : ByteArray := prog_16_method_70_code
def yJ9_min_f86c9 : MethodName := ⟨RJ9, "min", "(JJ)J"⟩
def RL : String := "EngineCellLaw"
abbrev cL_law : ByteArray := code
def yL_law : MethodName := ⟨RL, "law", "([I)Z"⟩
theorem dX0_init_0 : decode cX0_init 0 = .ok (.aload_n 0, 1) := by decide +kernel
theorem dX0_init_1 : decode cX0_init 1 = .ok (.invokespecial 3, 3) := by decide +kernel
theorem dX0_init_4 : decode cX0_init 4 = .ok (.aload_n 0, 1) := by decide +kernel
theorem dX0_init_5 : decode cX0_init 5 = .ok (.iconst 0, 1) := by decide +kernel
theorem dX0_init_6 : decode cX0_init 6 = .ok (.putfield 9, 3) := by decide +kernel
theorem dX0_init_9 : decode cX0_init 9 = .ok (.return_, 1) := by decide +kernel
theorem dX0_isA_0 : decode cX0_isA 0 = .ok (.iload_n 1, 1) := by decide +kernel
theorem dX0_isA_1 : decode cX0_isA 1 = .ok (.ifCond .ne 23, 3) := by decide +kernel
theorem dX0_isA_4 : decode cX0_isA 4 = .ok (.iload_n 0, 1) := by decide +kernel
theorem dX0_isA_5 : decode cX0_isA 5 = .ok (.ifCond .eq 13, 3) := by decide +kernel
theorem dX0_isA_8 : decode cX0_isA 8 = .ok (.iload_n 0, 1) := by decide +kernel
theorem dX0_isA_9 : decode cX0_isA 9 = .ok (.iconst 1, 1) := by decide +kernel
theorem dX0_isA_10 : decode cX0_isA 10 = .ok (.if_icmp .eq 8, 3) := by decide +kernel
theorem dX0_isA_13 : decode cX0_isA 13 = .ok (.iload_n 0, 1) := by decide +kernel
theorem dX0_isA_14 : decode cX0_isA 14 = .ok (.iconst 2, 1) := by decide +kernel
theorem dX0_isA_15 : decode cX0_isA 15 = .ok (.if_icmp .ne 7, 3) := by decide +kernel
theorem dX0_isA_18 : decode cX0_isA 18 = .ok (.iconst 1, 1) := by decide +kernel
theorem dX0_isA_19 : decode cX0_isA 19 = .ok (.goto 4, 3) := by decide +kernel
theorem dX0_isA_22 : decode cX0_isA 22 = .ok (.iconst 0, 1) := by decide +kernel
theorem dX0_isA_23 : decode cX0_isA 23 = .ok (.ireturn, 1) := by decide +kernel
theorem dX0_isA_24 : decode cX0_isA 24 = .ok (.iload_n 0, 1) := by decide +kernel
theorem dX0_isA_25 : decode cX0_isA 25 = .ok (.iload_n 1, 1) := by decide +kernel
theorem dX0_isA_26 : decode cX0_isA 26 = .ok (.if_icmp .eq 13, 3) := by decide +kernel
theorem dX0_isA_29 : decode cX0_isA 29 = .ok (.iload_n 0, 1) := by decide +kernel
theorem dX0_isA_30 : decode cX0_isA 30 = .ok (.iconst 4, 1) := by decide +kernel
theorem dX0_isA_31 : decode cX0_isA 31 = .ok (.if_icmp .ne 12, 3) := by decide +kernel
theorem dX0_isA_34 : decode cX0_isA 34 = .ok (.iload_n 1, 1) := by decide +kernel
theorem dX0_isA_35 : decode cX0_isA 35 = .ok (.iconst 3, 1) := by decide +kernel
theorem dX0_isA_36 : decode cX0_isA 36 = .ok (.if_icmp .ne 7, 3) := by decide +kernel
theorem dX0_isA_39 : decode cX0_isA 39 = .ok (.iconst 1, 1) := by decide +kernel
theorem dX0_isA_40 : decode cX0_isA 40 = .ok (.goto 4, 3) := by decide +kernel
theorem dX0_isA_43 : decode cX0_isA 43 = .ok (.iconst 0, 1) := by decide +kernel
theorem dX0_isA_44 : decode cX0_isA 44 = .ok (.ireturn, 1) := by decide +kernel
theorem dX0_telling_0 : decode cX0_telling 0 = .ok (.iload_n 1, 1) := by decide +kernel
theorem dX0_telling_1 : decode cX0_telling 1 = .ok (.tableswitch 46 0 2 #[27, 33, 39], 27) := by decide +kernel
theorem dX0_telling_28 : decode cX0_telling 28 = .ok (.aload_n 0, 1) := by decide +kernel
theorem dX0_telling_29 : decode cX0_telling 29 = .ok (.iload_n 2, 1) := by decide +kernel
theorem dX0_telling_30 : decode cX0_telling 30 = .ok (.invokevirtual 15, 3) := by decide +kernel
theorem dX0_telling_33 : decode cX0_telling 33 = .ok (.ireturn, 1) := by decide +kernel
theorem dX0_telling_34 : decode cX0_telling 34 = .ok (.aload_n 0, 1) := by decide +kernel
theorem dX0_telling_35 : decode cX0_telling 35 = .ok (.iload_n 2, 1) := by decide +kernel
theorem dX0_telling_36 : decode cX0_telling 36 = .ok (.invokevirtual 19, 3) := by decide +kernel
theorem dX0_telling_39 : decode cX0_telling 39 = .ok (.ireturn, 1) := by decide +kernel
theorem dX0_telling_40 : decode cX0_telling 40 = .ok (.aload_n 0, 1) := by decide +kernel
theorem dX0_telling_41 : decode cX0_telling 41 = .ok (.iload_n 2, 1) := by decide +kernel
theorem dX0_telling_42 : decode cX0_telling 42 = .ok (.iload_n 3, 1) := by decide +kernel
theorem dX0_telling_43 : decode cX0_telling 43 = .ok (.invokevirtual 22, 3) := by decide +kernel
theorem dX0_telling_46 : decode cX0_telling 46 = .ok (.ireturn, 1) := by decide +kernel
theorem dX0_telling_47 : decode cX0_telling 47 = .ok (.aload_n 0, 1) := by decide +kernel
theorem dX0_telling_48 : decode cX0_telling 48 = .ok (.invokevirtual 26, 3) := by decide +kernel
theorem dX0_telling_51 : decode cX0_telling 51 = .ok (.ireturn, 1) := by decide +kernel
theorem dX0_drawing_0 : decode cX0_drawing 0 = .ok (.iload_n 1, 1) := by decide +kernel
theorem dX0_drawing_1 : decode cX0_drawing 1 = .ok (.iconst 1, 1) := by decide +kernel
theorem dX0_drawing_2 : decode cX0_drawing 2 = .ok (.if_icmp .ne 11, 3) := by decide +kernel
theorem dX0_drawing_5 : decode cX0_drawing 5 = .ok (.aload_n 0, 1) := by decide +kernel
theorem dX0_drawing_6 : decode cX0_drawing 6 = .ok (.bipush 6, 2) := by decide +kernel
theorem dX0_drawing_8 : decode cX0_drawing 8 = .ok (.invokevirtual 30, 3) := by decide +kernel
theorem dX0_drawing_11 : decode cX0_drawing 11 = .ok (.iconst 3, 1) := by decide +kernel
theorem dX0_drawing_12 : decode cX0_drawing 12 = .ok (.ireturn, 1) := by decide +kernel
theorem dX0_drawing_13 : decode cX0_drawing 13 = .ok (.aload_n 0, 1) := by decide +kernel
theorem dX0_drawing_14 : decode cX0_drawing 14 = .ok (.iconst 5, 1) := by decide +kernel
theorem dX0_drawing_15 : decode cX0_drawing 15 = .ok (.invokevirtual 30, 3) := by decide +kernel
theorem dX0_drawing_18 : decode cX0_drawing 18 = .ok (.bipush 100, 2) := by decide +kernel
theorem dX0_drawing_20 : decode cX0_drawing 20 = .ok (.iload_n 1, 1) := by decide +kernel
theorem dX0_drawing_21 : decode cX0_drawing 21 = .ok (.iadd, 1) := by decide +kernel
theorem dX0_drawing_22 : decode cX0_drawing 22 = .ok (.ireturn, 1) := by decide +kernel
theorem dX0_leave_0 : decode cX0_leave 0 = .ok (.aload_n 0, 1) := by decide +kernel
theorem dX0_leave_1 : decode cX0_leave 1 = .ok (.bipush 31, 2) := by decide +kernel
theorem dX0_leave_3 : decode cX0_leave 3 = .ok (.aload_n 0, 1) := by decide +kernel
theorem dX0_leave_4 : decode cX0_leave 4 = .ok (.getfield 9, 3) := by decide +kernel
theorem dX0_leave_7 : decode cX0_leave 7 = .ok (.imul, 1) := by decide +kernel
theorem dX0_leave_8 : decode cX0_leave 8 = .ok (.iload_n 1, 1) := by decide +kernel
theorem dX0_leave_9 : decode cX0_leave 9 = .ok (.iadd, 1) := by decide +kernel
theorem dX0_leave_10 : decode cX0_leave 10 = .ok (.putfield 9, 3) := by decide +kernel
theorem dX0_leave_13 : decode cX0_leave 13 = .ok (.return_, 1) := by decide +kernel
theorem dX0_holds_0 : decode cX0_holds 0 = .ok (.aload_n 0, 1) := by decide +kernel
theorem dX0_holds_1 : decode cX0_holds 1 = .ok (.iconst 1, 1) := by decide +kernel
theorem dX0_holds_2 : decode cX0_holds 2 = .ok (.invokevirtual 30, 3) := by decide +kernel
theorem dX0_holds_5 : decode cX0_holds 5 = .ok (.iload_n 1, 1) := by decide +kernel
theorem dX0_holds_6 : decode cX0_holds 6 = .ok (.ireturn, 1) := by decide +kernel
theorem dX0_ramps_0 : decode cX0_ramps 0 = .ok (.aload_n 0, 1) := by decide +kernel
theorem dX0_ramps_1 : decode cX0_ramps 1 = .ok (.iconst 2, 1) := by decide +kernel
theorem dX0_ramps_2 : decode cX0_ramps 2 = .ok (.invokevirtual 30, 3) := by decide +kernel
theorem dX0_ramps_5 : decode cX0_ramps 5 = .ok (.bipush 10, 2) := by decide +kernel
theorem dX0_ramps_7 : decode cX0_ramps 7 = .ok (.aload_n 0, 1) := by decide +kernel
theorem dX0_ramps_8 : decode cX0_ramps 8 = .ok (.iload_n 1, 1) := by decide +kernel
theorem dX0_ramps_9 : decode cX0_ramps 9 = .ok (.invokevirtual 15, 3) := by decide +kernel
theorem dX0_ramps_12 : decode cX0_ramps 12 = .ok (.imul, 1) := by decide +kernel
theorem dX0_ramps_13 : decode cX0_ramps 13 = .ok (.ireturn, 1) := by decide +kernel
theorem dX0_waits_0 : decode cX0_waits 0 = .ok (.aload_n 0, 1) := by decide +kernel
theorem dX0_waits_1 : decode cX0_waits 1 = .ok (.iconst 3, 1) := by decide +kernel
theorem dX0_waits_2 : decode cX0_waits 2 = .ok (.invokevirtual 30, 3) := by decide +kernel
theorem dX0_waits_5 : decode cX0_waits 5 = .ok (.aload_n 0, 1) := by decide +kernel
theorem dX0_waits_6 : decode cX0_waits 6 = .ok (.iload_n 1, 1) := by decide +kernel
theorem dX0_waits_7 : decode cX0_waits 7 = .ok (.invokevirtual 15, 3) := by decide +kernel
theorem dX0_waits_10 : decode cX0_waits 10 = .ok (.iload_n 2, 1) := by decide +kernel
theorem dX0_waits_11 : decode cX0_waits 11 = .ok (.iadd, 1) := by decide +kernel
theorem dX0_waits_12 : decode cX0_waits 12 = .ok (.ireturn, 1) := by decide +kernel
theorem dX0_loops_0 : decode cX0_loops 0 = .ok (.aload_n 0, 1) := by decide +kernel
theorem dX0_loops_1 : decode cX0_loops 1 = .ok (.iconst 4, 1) := by decide +kernel
theorem dX0_loops_2 : decode cX0_loops 2 = .ok (.invokevirtual 30, 3) := by decide +kernel
theorem dX0_loops_5 : decode cX0_loops 5 = .ok (.bipush 7, 2) := by decide +kernel
theorem dX0_loops_7 : decode cX0_loops 7 = .ok (.ireturn, 1) := by decide +kernel
theorem dX1_init_0 : decode cX1_init 0 = .ok (.aload_n 0, 1) := by decide +kernel
theorem dX1_init_1 : decode cX1_init 1 = .ok (.invokespecial 1, 3) := by decide +kernel
theorem dX1_init_4 : decode cX1_init 4 = .ok (.aload_n 0, 1) := by decide +kernel
theorem dX1_init_5 : decode cX1_init 5 = .ok (.iconst 0, 1) := by decide +kernel
theorem dX1_init_6 : decode cX1_init 6 = .ok (.putfield 7, 3) := by decide +kernel
theorem dX1_init_9 : decode cX1_init 9 = .ok (.aload_n 0, 1) := by decide +kernel
theorem dX1_init_10 : decode cX1_init 10 = .ok (.iconst 0, 1) := by decide +kernel
theorem dX1_init_11 : decode cX1_init 11 = .ok (.putfield 13, 3) := by decide +kernel
theorem dX1_init_14 : decode cX1_init 14 = .ok (.aload_n 0, 1) := by decide +kernel
theorem dX1_init_15 : decode cX1_init 15 = .ok (.iload_n 1, 1) := by decide +kernel
theorem dX1_init_16 : decode cX1_init 16 = .ok (.putfield 17, 3) := by decide +kernel
theorem dX1_init_19 : decode cX1_init 19 = .ok (.aload_n 0, 1) := by decide +kernel
theorem dX1_init_20 : decode cX1_init 20 = .ok (.iload_n 2, 1) := by decide +kernel
theorem dX1_init_21 : decode cX1_init 21 = .ok (.putfield 20, 3) := by decide +kernel
theorem dX1_init_24 : decode cX1_init 24 = .ok (.aload_n 0, 1) := by decide +kernel
theorem dX1_init_25 : decode cX1_init 25 = .ok (.iload_n 3, 1) := by decide +kernel
theorem dX1_init_26 : decode cX1_init 26 = .ok (.putfield 23, 3) := by decide +kernel
theorem dX1_init_29 : decode cX1_init 29 = .ok (.aload_n 0, 1) := by decide +kernel
theorem dX1_init_30 : decode cX1_init 30 = .ok (.iload 4, 2) := by decide +kernel
theorem dX1_init_32 : decode cX1_init 32 = .ok (.putfield 26, 3) := by decide +kernel
theorem dX1_init_35 : decode cX1_init 35 = .ok (.aload_n 0, 1) := by decide +kernel
theorem dX1_init_36 : decode cX1_init 36 = .ok (.iload 5, 2) := by decide +kernel
theorem dX1_init_38 : decode cX1_init 38 = .ok (.putfield 29, 3) := by decide +kernel
theorem dX1_init_41 : decode cX1_init 41 = .ok (.aload_n 0, 1) := by decide +kernel
theorem dX1_init_42 : decode cX1_init 42 = .ok (.iload 6, 2) := by decide +kernel
theorem dX1_init_44 : decode cX1_init 44 = .ok (.putfield 32, 3) := by decide +kernel
theorem dX1_init_47 : decode cX1_init 47 = .ok (.return_, 1) := by decide +kernel
theorem dX1_readsAt_0 : decode cX1_readsAt 0 = .ok (.aload_n 0, 1) := by decide +kernel
theorem dX1_readsAt_1 : decode cX1_readsAt 1 = .ok (.getfield 23, 3) := by decide +kernel
theorem dX1_readsAt_4 : decode cX1_readsAt 4 = .ok (.ifCond .le 16, 3) := by decide +kernel
theorem dX1_readsAt_7 : decode cX1_readsAt 7 = .ok (.iload_n 1, 1) := by decide +kernel
theorem dX1_readsAt_8 : decode cX1_readsAt 8 = .ok (.aload_n 0, 1) := by decide +kernel
theorem dX1_readsAt_9 : decode cX1_readsAt 9 = .ok (.getfield 23, 3) := by decide +kernel
theorem dX1_readsAt_12 : decode cX1_readsAt 12 = .ok (.irem, 1) := by decide +kernel
theorem dX1_readsAt_13 : decode cX1_readsAt 13 = .ok (.ifCond .ne 7, 3) := by decide +kernel
theorem dX1_readsAt_16 : decode cX1_readsAt 16 = .ok (.iconst 1, 1) := by decide +kernel
theorem dX1_readsAt_17 : decode cX1_readsAt 17 = .ok (.goto 4, 3) := by decide +kernel
theorem dX1_readsAt_20 : decode cX1_readsAt 20 = .ok (.iconst 0, 1) := by decide +kernel
theorem dX1_readsAt_21 : decode cX1_readsAt 21 = .ok (.ireturn, 1) := by decide +kernel
theorem dX1_latestAt_0 : decode cX1_latestAt 0 = .ok (.aload_n 0, 1) := by decide +kernel
theorem dX1_latestAt_1 : decode cX1_latestAt 1 = .ok (.getfield 23, 3) := by decide +kernel
theorem dX1_latestAt_4 : decode cX1_latestAt 4 = .ok (.ifCond .le 17, 3) := by decide +kernel
theorem dX1_latestAt_7 : decode cX1_latestAt 7 = .ok (.iload_n 1, 1) := by decide +kernel
theorem dX1_latestAt_8 : decode cX1_latestAt 8 = .ok (.aload_n 0, 1) := by decide +kernel
theorem dX1_latestAt_9 : decode cX1_latestAt 9 = .ok (.getfield 23, 3) := by decide +kernel
theorem dX1_latestAt_12 : decode cX1_latestAt 12 = .ok (.idiv, 1) := by decide +kernel
theorem dX1_latestAt_13 : decode cX1_latestAt 13 = .ok (.aload_n 0, 1) := by decide +kernel
theorem dX1_latestAt_14 : decode cX1_latestAt 14 = .ok (.getfield 23, 3) := by decide +kernel
theorem dX1_latestAt_17 : decode cX1_latestAt 17 = .ok (.imul, 1) := by decide +kernel
theorem dX1_latestAt_18 : decode cX1_latestAt 18 = .ok (.goto 4, 3) := by decide +kernel
theorem dX1_latestAt_21 : decode cX1_latestAt 21 = .ok (.iload_n 1, 1) := by decide +kernel
theorem dX1_latestAt_22 : decode cX1_latestAt 22 = .ok (.ireturn, 1) := by decide +kernel
theorem dX1_firstFrom_0 : decode cX1_firstFrom 0 = .ok (.aload_n 0, 1) := by decide +kernel
theorem dX1_firstFrom_1 : decode cX1_firstFrom 1 = .ok (.iload_n 1, 1) := by decide +kernel
theorem dX1_firstFrom_2 : decode cX1_firstFrom 2 = .ok (.aload_n 0, 1) := by decide +kernel
theorem dX1_firstFrom_3 : decode cX1_firstFrom 3 = .ok (.getfield 23, 3) := by decide +kernel
theorem dX1_firstFrom_6 : decode cX1_firstFrom 6 = .ok (.iadd, 1) := by decide +kernel
theorem dX1_firstFrom_7 : decode cX1_firstFrom 7 = .ok (.iconst 1, 1) := by decide +kernel
theorem dX1_firstFrom_8 : decode cX1_firstFrom 8 = .ok (.isub, 1) := by decide +kernel
theorem dX1_firstFrom_9 : decode cX1_firstFrom 9 = .ok (.invokevirtual 35, 3) := by decide +kernel
theorem dX1_firstFrom_12 : decode cX1_firstFrom 12 = .ok (.ireturn, 1) := by decide +kernel
theorem dX2_init_0 : decode cX2_init 0 = .ok (.aload_n 0, 1) := by decide +kernel
theorem dX2_init_1 : decode cX2_init 1 = .ok (.invokespecial 3, 3) := by decide +kernel
theorem dX2_init_4 : decode cX2_init 4 = .ok (.aload_n 0, 1) := by decide +kernel
theorem dX2_init_5 : decode cX2_init 5 = .ok (.bipush 8, 2) := by decide +kernel
theorem dX2_init_7 : decode cX2_init 7 = .ok (.anewarray 9, 3) := by decide +kernel
theorem dX2_init_10 : decode cX2_init 10 = .ok (.putfield 11, 3) := by decide +kernel
theorem dX2_init_13 : decode cX2_init 13 = .ok (.aload_n 0, 1) := by decide +kernel
theorem dX2_init_14 : decode cX2_init 14 = .ok (.new 17, 3) := by decide +kernel
theorem dX2_init_17 : decode cX2_init 17 = .ok (.dup, 1) := by decide +kernel
theorem dX2_init_18 : decode cX2_init 18 = .ok (.invokespecial 19, 3) := by decide +kernel
theorem dX2_init_21 : decode cX2_init 21 = .ok (.putfield 20, 3) := by decide +kernel
theorem dX2_init_24 : decode cX2_init 24 = .ok (.aload_n 0, 1) := by decide +kernel
theorem dX2_init_25 : decode cX2_init 25 = .ok (.new 17, 3) := by decide +kernel
theorem dX2_init_28 : decode cX2_init 28 = .ok (.dup, 1) := by decide +kernel
theorem dX2_init_29 : decode cX2_init 29 = .ok (.invokespecial 19, 3) := by decide +kernel
theorem dX2_init_32 : decode cX2_init 32 = .ok (.putfield 24, 3) := by decide +kernel
theorem dX2_init_35 : decode cX2_init 35 = .ok (.aload_n 0, 1) := by decide +kernel
theorem dX2_init_36 : decode cX2_init 36 = .ok (.iconst 0, 1) := by decide +kernel
theorem dX2_init_37 : decode cX2_init 37 = .ok (.putfield 27, 3) := by decide +kernel
theorem dX2_init_40 : decode cX2_init 40 = .ok (.aload_n 0, 1) := by decide +kernel
theorem dX2_init_41 : decode cX2_init 41 = .ok (.aload_n 1, 1) := by decide +kernel
theorem dX2_init_42 : decode cX2_init 42 = .ok (.putfield 31, 3) := by decide +kernel
theorem dX2_init_45 : decode cX2_init 45 = .ok (.return_, 1) := by decide +kernel
theorem dX2_add_0 : decode cX2_add 0 = .ok (.aload_n 0, 1) := by decide +kernel
theorem dX2_add_1 : decode cX2_add 1 = .ok (.getfield 27, 3) := by decide +kernel
theorem dX2_add_4 : decode cX2_add 4 = .ok (.iconst 0, 1) := by decide +kernel
theorem dX2_add_5 : decode cX2_add 5 = .ok (.bipush 7, 2) := by decide +kernel
theorem dX2_add_7 : decode cX2_add 7 = .ok (.invokestatic 35, 3) := by decide +kernel
theorem dX2_add_10 : decode cX2_add 10 = .ok (.ifCond .eq 23, 3) := by decide +kernel
theorem dX2_add_13 : decode cX2_add 13 = .ok (.aload_n 0, 1) := by decide +kernel
theorem dX2_add_14 : decode cX2_add 14 = .ok (.getfield 11, 3) := by decide +kernel
theorem dX2_add_17 : decode cX2_add 17 = .ok (.aload_n 0, 1) := by decide +kernel
theorem dX2_add_18 : decode cX2_add 18 = .ok (.getfield 27, 3) := by decide +kernel
theorem dX2_add_21 : decode cX2_add 21 = .ok (.aload_n 1, 1) := by decide +kernel
theorem dX2_add_22 : decode cX2_add 22 = .ok (.aastore, 1) := by decide +kernel
theorem dX2_add_23 : decode cX2_add 23 = .ok (.aload_n 0, 1) := by decide +kernel
theorem dX2_add_24 : decode cX2_add 24 = .ok (.dup, 1) := by decide +kernel
theorem dX2_add_25 : decode cX2_add 25 = .ok (.getfield 27, 3) := by decide +kernel
theorem dX2_add_28 : decode cX2_add 28 = .ok (.iconst 1, 1) := by decide +kernel
theorem dX2_add_29 : decode cX2_add 29 = .ok (.iadd, 1) := by decide +kernel
theorem dX2_add_30 : decode cX2_add 30 = .ok (.putfield 27, 3) := by decide +kernel
theorem dX2_add_33 : decode cX2_add 33 = .ok (.return_, 1) := by decide +kernel
theorem dX2_find_0 : decode cX2_find 0 = .ok (.iload_n 1, 1) := by decide +kernel
theorem dX2_find_1 : decode cX2_find 1 = .ok (.iconst 0, 1) := by decide +kernel
theorem dX2_find_2 : decode cX2_find 2 = .ok (.aload_n 0, 1) := by decide +kernel
theorem dX2_find_3 : decode cX2_find 3 = .ok (.getfield 27, 3) := by decide +kernel
theorem dX2_find_6 : decode cX2_find 6 = .ok (.bipush 8, 2) := by decide +kernel
theorem dX2_find_8 : decode cX2_find 8 = .ok (.invokestatic 39, 3) := by decide +kernel
theorem dX2_find_11 : decode cX2_find 11 = .ok (.iconst 1, 1) := by decide +kernel
theorem dX2_find_12 : decode cX2_find 12 = .ok (.isub, 1) := by decide +kernel
theorem dX2_find_13 : decode cX2_find 13 = .ok (.invokestatic 35, 3) := by decide +kernel
theorem dX2_find_16 : decode cX2_find 16 = .ok (.ifCond .eq 12, 3) := by decide +kernel
theorem dX2_find_19 : decode cX2_find 19 = .ok (.aload_n 0, 1) := by decide +kernel
theorem dX2_find_20 : decode cX2_find 20 = .ok (.getfield 11, 3) := by decide +kernel
theorem dX2_find_23 : decode cX2_find 23 = .ok (.iload_n 1, 1) := by decide +kernel
theorem dX2_find_24 : decode cX2_find 24 = .ok (.aaload, 1) := by decide +kernel
theorem dX2_find_25 : decode cX2_find 25 = .ok (.goto 4, 3) := by decide +kernel
theorem dX2_find_28 : decode cX2_find 28 = .ok (.aconst_null, 1) := by decide +kernel
theorem dX2_find_29 : decode cX2_find 29 = .ok (.areturn, 1) := by decide +kernel
theorem dX2_isLost_0 : decode cX2_isLost 0 = .ok (.iload_n 2, 1) := by decide +kernel
theorem dX2_isLost_1 : decode cX2_isLost 1 = .ok (.aload_n 1, 1) := by decide +kernel
theorem dX2_isLost_2 : decode cX2_isLost 2 = .ok (.getfield 45, 3) := by decide +kernel
theorem dX2_isLost_5 : decode cX2_isLost 5 = .ok (.if_icmp .lt 18, 3) := by decide +kernel
theorem dX2_isLost_8 : decode cX2_isLost 8 = .ok (.aload_n 0, 1) := by decide +kernel
theorem dX2_isLost_9 : decode cX2_isLost 9 = .ok (.getfield 20, 3) := by decide +kernel
theorem dX2_isLost_12 : decode cX2_isLost 12 = .ok (.aload_n 1, 1) := by decide +kernel
theorem dX2_isLost_13 : decode cX2_isLost 13 = .ok (.getfield 48, 3) := by decide +kernel
theorem dX2_isLost_16 : decode cX2_isLost 16 = .ok (.iload_n 2, 1) := by decide +kernel
theorem dX2_isLost_17 : decode cX2_isLost 17 = .ok (.invokevirtual 51, 3) := by decide +kernel
theorem dX2_isLost_20 : decode cX2_isLost 20 = .ok (.ifCond .eq 7, 3) := by decide +kernel
theorem dX2_isLost_23 : decode cX2_isLost 23 = .ok (.iconst 1, 1) := by decide +kernel
theorem dX2_isLost_24 : decode cX2_isLost 24 = .ok (.goto 4, 3) := by decide +kernel
theorem dX2_isLost_27 : decode cX2_isLost 27 = .ok (.iconst 0, 1) := by decide +kernel
theorem dX2_isLost_28 : decode cX2_isLost 28 = .ok (.ireturn, 1) := by decide +kernel
theorem dX2_isFull_0 : decode cX2_isFull 0 = .ok (.aload_n 0, 1) := by decide +kernel
theorem dX2_isFull_1 : decode cX2_isFull 1 = .ok (.getfield 31, 3) := by decide +kernel
theorem dX2_isFull_4 : decode cX2_isFull 4 = .ok (.iload_n 2, 1) := by decide +kernel
theorem dX2_isFull_5 : decode cX2_isFull 5 = .ok (.aload_n 1, 1) := by decide +kernel
theorem dX2_isFull_6 : decode cX2_isFull 6 = .ok (.getfield 45, 3) := by decide +kernel
theorem dX2_isFull_9 : decode cX2_isFull 9 = .ok (.isub, 1) := by decide +kernel
theorem dX2_isFull_10 : decode cX2_isFull 10 = .ok (.aload_n 1, 1) := by decide +kernel
theorem dX2_isFull_11 : decode cX2_isFull 11 = .ok (.getfield 55, 3) := by decide +kernel
theorem dX2_isFull_14 : decode cX2_isFull 14 = .ok (.invokevirtual 58, 3) := by decide +kernel
theorem dX2_isFull_17 : decode cX2_isFull 17 = .ok (.aload_n 1, 1) := by decide +kernel
theorem dX2_isFull_18 : decode cX2_isFull 18 = .ok (.getfield 63, 3) := by decide +kernel
theorem dX2_isFull_21 : decode cX2_isFull 21 = .ok (.aload_n 1, 1) := by decide +kernel
theorem dX2_isFull_22 : decode cX2_isFull 22 = .ok (.getfield 66, 3) := by decide +kernel
theorem dX2_isFull_25 : decode cX2_isFull 25 = .ok (.invokestatic 35, 3) := by decide +kernel
theorem dX2_isFull_28 : decode cX2_isFull 28 = .ok (.ifCond .ne 7, 3) := by decide +kernel
theorem dX2_isFull_31 : decode cX2_isFull 31 = .ok (.iconst 1, 1) := by decide +kernel
theorem dX2_isFull_32 : decode cX2_isFull 32 = .ok (.goto 4, 3) := by decide +kernel
theorem dX2_isFull_35 : decode cX2_isFull 35 = .ok (.iconst 0, 1) := by decide +kernel
theorem dX2_isFull_36 : decode cX2_isFull 36 = .ok (.ireturn, 1) := by decide +kernel
theorem dX2_value_0 : decode cX2_value 0 = .ok (.aload_n 0, 1) := by decide +kernel
theorem dX2_value_1 : decode cX2_value 1 = .ok (.aload_n 1, 1) := by decide +kernel
theorem dX2_value_2 : decode cX2_value 2 = .ok (.iload_n 2, 1) := by decide +kernel
theorem dX2_value_3 : decode cX2_value 3 = .ok (.invokevirtual 69, 3) := by decide +kernel
theorem dX2_value_6 : decode cX2_value 6 = .ok (.ifCond .eq 7, 3) := by decide +kernel
theorem dX2_value_9 : decode cX2_value 9 = .ok (.ldc2_w 73, 3) := by decide +kernel
theorem dX2_value_12 : decode cX2_value 12 = .ok (.lreturn, 1) := by decide +kernel
theorem dX2_value_13 : decode cX2_value 13 = .ok (.aload_n 0, 1) := by decide +kernel
theorem dX2_value_14 : decode cX2_value 14 = .ok (.getfield 31, 3) := by decide +kernel
theorem dX2_value_17 : decode cX2_value 17 = .ok (.iload_n 2, 1) := by decide +kernel
theorem dX2_value_18 : decode cX2_value 18 = .ok (.aload_n 1, 1) := by decide +kernel
theorem dX2_value_19 : decode cX2_value 19 = .ok (.getfield 45, 3) := by decide +kernel
theorem dX2_value_22 : decode cX2_value 22 = .ok (.isub, 1) := by decide +kernel
theorem dX2_value_23 : decode cX2_value 23 = .ok (.aload_n 1, 1) := by decide +kernel
theorem dX2_value_24 : decode cX2_value 24 = .ok (.getfield 55, 3) := by decide +kernel
theorem dX2_value_27 : decode cX2_value 27 = .ok (.invokevirtual 58, 3) := by decide +kernel
theorem dX2_value_30 : decode cX2_value 30 = .ok (.istore_n 3, 1) := by decide +kernel
theorem dX2_value_31 : decode cX2_value 31 = .ok (.aload_n 1, 1) := by decide +kernel
theorem dX2_value_32 : decode cX2_value 32 = .ok (.getfield 63, 3) := by decide +kernel
theorem dX2_value_35 : decode cX2_value 35 = .ok (.aload_n 1, 1) := by decide +kernel
theorem dX2_value_36 : decode cX2_value 36 = .ok (.getfield 66, 3) := by decide +kernel
theorem dX2_value_39 : decode cX2_value 39 = .ok (.iload_n 3, 1) := by decide +kernel
theorem dX2_value_40 : decode cX2_value 40 = .ok (.invokestatic 39, 3) := by decide +kernel
theorem dX2_value_43 : decode cX2_value 43 = .ok (.invokestatic 75, 3) := by decide +kernel
theorem dX2_value_46 : decode cX2_value 46 = .ok (.istore 4, 2) := by decide +kernel
theorem dX2_value_48 : decode cX2_value 48 = .ok (.aload_n 0, 1) := by decide +kernel
theorem dX2_value_49 : decode cX2_value 49 = .ok (.getfield 24, 3) := by decide +kernel
theorem dX2_value_52 : decode cX2_value 52 = .ok (.aload_n 1, 1) := by decide +kernel
theorem dX2_value_53 : decode cX2_value 53 = .ok (.getfield 48, 3) := by decide +kernel
theorem dX2_value_56 : decode cX2_value 56 = .ok (.iload_n 2, 1) := by decide +kernel
theorem dX2_value_57 : decode cX2_value 57 = .ok (.iload 4, 2) := by decide +kernel
theorem dX2_value_59 : decode cX2_value 59 = .ok (.invokevirtual 78, 3) := by decide +kernel
theorem dX2_value_62 : decode cX2_value 62 = .ok (.i2l, 1) := by decide +kernel
theorem dX2_value_63 : decode cX2_value 63 = .ok (.lreturn, 1) := by decide +kernel
theorem dX2_isOneAbove_0 : decode cX2_isOneAbove 0 = .ok (.iconst 0, 1) := by decide +kernel
theorem dX2_isOneAbove_1 : decode cX2_isOneAbove 1 = .ok (.istore_n 2, 1) := by decide +kernel
theorem dX2_isOneAbove_2 : decode cX2_isOneAbove 2 = .ok (.iload_n 2, 1) := by decide +kernel
theorem dX2_isOneAbove_3 : decode cX2_isOneAbove 3 = .ok (.aload_n 0, 1) := by decide +kernel
theorem dX2_isOneAbove_4 : decode cX2_isOneAbove 4 = .ok (.getfield 27, 3) := by decide +kernel
theorem dX2_isOneAbove_7 : decode cX2_isOneAbove 7 = .ok (.if_icmp .ge 71, 3) := by decide +kernel
theorem dX2_isOneAbove_10 : decode cX2_isOneAbove 10 = .ok (.iload_n 2, 1) := by decide +kernel
theorem dX2_isOneAbove_11 : decode cX2_isOneAbove 11 = .ok (.bipush 8, 2) := by decide +kernel
theorem dX2_isOneAbove_13 : decode cX2_isOneAbove 13 = .ok (.if_icmp .ge 65, 3) := by decide +kernel
theorem dX2_isOneAbove_16 : decode cX2_isOneAbove 16 = .ok (.aload_n 0, 1) := by decide +kernel
theorem dX2_isOneAbove_17 : decode cX2_isOneAbove 17 = .ok (.getfield 11, 3) := by decide +kernel
theorem dX2_isOneAbove_20 : decode cX2_isOneAbove 20 = .ok (.iload_n 2, 1) := by decide +kernel
theorem dX2_isOneAbove_21 : decode cX2_isOneAbove 21 = .ok (.aaload, 1) := by decide +kernel
theorem dX2_isOneAbove_22 : decode cX2_isOneAbove 22 = .ok (.astore_n 3, 1) := by decide +kernel
theorem dX2_isOneAbove_23 : decode cX2_isOneAbove 23 = .ok (.aload_n 3, 1) := by decide +kernel
theorem dX2_isOneAbove_24 : decode cX2_isOneAbove 24 = .ok (.ifnull 48, 3) := by decide +kernel
theorem dX2_isOneAbove_27 : decode cX2_isOneAbove 27 = .ok (.aload_n 3, 1) := by decide +kernel
theorem dX2_isOneAbove_28 : decode cX2_isOneAbove 28 = .ok (.getfield 82, 3) := by decide +kernel
theorem dX2_isOneAbove_31 : decode cX2_isOneAbove 31 = .ok (.ifCond .eq 41, 3) := by decide +kernel
theorem dX2_isOneAbove_34 : decode cX2_isOneAbove 34 = .ok (.aload_n 3, 1) := by decide +kernel
theorem dX2_isOneAbove_35 : decode cX2_isOneAbove 35 = .ok (.iload_n 1, 1) := by decide +kernel
theorem dX2_isOneAbove_36 : decode cX2_isOneAbove 36 = .ok (.invokevirtual 86, 3) := by decide +kernel
theorem dX2_isOneAbove_39 : decode cX2_isOneAbove 39 = .ok (.ifCond .eq 33, 3) := by decide +kernel
theorem dX2_isOneAbove_42 : decode cX2_isOneAbove 42 = .ok (.aload_n 0, 1) := by decide +kernel
theorem dX2_isOneAbove_43 : decode cX2_isOneAbove 43 = .ok (.aload_n 3, 1) := by decide +kernel
theorem dX2_isOneAbove_44 : decode cX2_isOneAbove 44 = .ok (.iload_n 1, 1) := by decide +kernel
theorem dX2_isOneAbove_45 : decode cX2_isOneAbove 45 = .ok (.invokevirtual 90, 3) := by decide +kernel
theorem dX2_isOneAbove_48 : decode cX2_isOneAbove 48 = .ok (.lstore 4, 2) := by decide +kernel
theorem dX2_isOneAbove_50 : decode cX2_isOneAbove 50 = .ok (.lload 4, 2) := by decide +kernel
theorem dX2_isOneAbove_52 : decode cX2_isOneAbove 52 = .ok (.ldc2_w 73, 3) := by decide +kernel
theorem dX2_isOneAbove_55 : decode cX2_isOneAbove 55 = .ok (.lcmp, 1) := by decide +kernel
theorem dX2_isOneAbove_56 : decode cX2_isOneAbove 56 = .ok (.ifCond .eq 16, 3) := by decide +kernel
theorem dX2_isOneAbove_59 : decode cX2_isOneAbove 59 = .ok (.lload 4, 2) := by decide +kernel
theorem dX2_isOneAbove_61 : decode cX2_isOneAbove 61 = .ok (.aload_n 3, 1) := by decide +kernel
theorem dX2_isOneAbove_62 : decode cX2_isOneAbove 62 = .ok (.getfield 94, 3) := by decide +kernel
theorem dX2_isOneAbove_65 : decode cX2_isOneAbove 65 = .ok (.i2l, 1) := by decide +kernel
theorem dX2_isOneAbove_66 : decode cX2_isOneAbove 66 = .ok (.lcmp, 1) := by decide +kernel
theorem dX2_isOneAbove_67 : decode cX2_isOneAbove 67 = .ok (.ifCond .le 5, 3) := by decide +kernel
theorem dX2_isOneAbove_70 : decode cX2_isOneAbove 70 = .ok (.iconst 1, 1) := by decide +kernel
theorem dX2_isOneAbove_71 : decode cX2_isOneAbove 71 = .ok (.ireturn, 1) := by decide +kernel
theorem dX2_isOneAbove_72 : decode cX2_isOneAbove 72 = .ok (.iinc 2 1, 3) := by decide +kernel
theorem dX2_isOneAbove_75 : decode cX2_isOneAbove 75 = .ok (.goto (-73), 3) := by decide +kernel
theorem dX2_isOneAbove_78 : decode cX2_isOneAbove 78 = .ok (.iconst 0, 1) := by decide +kernel
theorem dX2_isOneAbove_79 : decode cX2_isOneAbove 79 = .ok (.ireturn, 1) := by decide +kernel
theorem dX3_init_0 : decode cX3_init 0 = .ok (.aload_n 0, 1) := by decide +kernel
theorem dX3_init_1 : decode cX3_init 1 = .ok (.invokespecial 3, 3) := by decide +kernel
theorem dX3_init_4 : decode cX3_init 4 = .ok (.aload_n 0, 1) := by decide +kernel
theorem dX3_init_5 : decode cX3_init 5 = .ok (.bipush 25, 2) := by decide +kernel
theorem dX3_init_7 : decode cX3_init 7 = .ok (.newarray .int, 2) := by decide +kernel
theorem dX3_init_9 : decode cX3_init 9 = .ok (.putfield 9, 3) := by decide +kernel
theorem dX3_init_12 : decode cX3_init 12 = .ok (.aload_n 0, 1) := by decide +kernel
theorem dX3_init_13 : decode cX3_init 13 = .ok (.sipush 21007, 3) := by decide +kernel
theorem dX3_init_16 : decode cX3_init 16 = .ok (.newarray .int, 2) := by decide +kernel
theorem dX3_init_18 : decode cX3_init 18 = .ok (.putfield 15, 3) := by decide +kernel
theorem dX3_init_21 : decode cX3_init 21 = .ok (.aload_n 0, 1) := by decide +kernel
theorem dX3_init_22 : decode cX3_init 22 = .ok (.iconst 4, 1) := by decide +kernel
theorem dX3_init_23 : decode cX3_init 23 = .ok (.putfield 18, 3) := by decide +kernel
theorem dX3_init_26 : decode cX3_init 26 = .ok (.aload_n 0, 1) := by decide +kernel
theorem dX3_init_27 : decode cX3_init 27 = .ok (.iconst 0, 1) := by decide +kernel
theorem dX3_init_28 : decode cX3_init 28 = .ok (.putfield 22, 3) := by decide +kernel
theorem dX3_init_31 : decode cX3_init 31 = .ok (.aload_n 0, 1) := by decide +kernel
theorem dX3_init_32 : decode cX3_init 32 = .ok (.getfield 15, 3) := by decide +kernel
theorem dX3_init_35 : decode cX3_init 35 = .ok (.iconst 3, 1) := by decide +kernel
theorem dX3_init_36 : decode cX3_init 36 = .ok (.bipush 20, 2) := by decide +kernel
theorem dX3_init_38 : decode cX3_init 38 = .ok (.iastore, 1) := by decide +kernel
theorem dX3_init_39 : decode cX3_init 39 = .ok (.return_, 1) := by decide +kernel
theorem dX3_mapped_0 : decode cX3_mapped 0 = .ok (.iload_n 1, 1) := by decide +kernel
theorem dX3_mapped_1 : decode cX3_mapped 1 = .ok (.iconst 0, 1) := by decide +kernel
theorem dX3_mapped_2 : decode cX3_mapped 2 = .ok (.bipush 24, 2) := by decide +kernel
theorem dX3_mapped_4 : decode cX3_mapped 4 = .ok (.invokestatic 25, 3) := by decide +kernel
theorem dX3_mapped_7 : decode cX3_mapped 7 = .ok (.ifCond .eq 12, 3) := by decide +kernel
theorem dX3_mapped_10 : decode cX3_mapped 10 = .ok (.aload_n 0, 1) := by decide +kernel
theorem dX3_mapped_11 : decode cX3_mapped 11 = .ok (.getfield 9, 3) := by decide +kernel
theorem dX3_mapped_14 : decode cX3_mapped 14 = .ok (.iload_n 1, 1) := by decide +kernel
theorem dX3_mapped_15 : decode cX3_mapped 15 = .ok (.iaload, 1) := by decide +kernel
theorem dX3_mapped_16 : decode cX3_mapped 16 = .ok (.goto 4, 3) := by decide +kernel
theorem dX3_mapped_19 : decode cX3_mapped 19 = .ok (.iconst 0, 1) := by decide +kernel
theorem dX3_mapped_20 : decode cX3_mapped 20 = .ok (.ireturn, 1) := by decide +kernel
theorem dX3_remap_0 : decode cX3_remap 0 = .ok (.iload_n 1, 1) := by decide +kernel
theorem dX3_remap_1 : decode cX3_remap 1 = .ok (.iconst 0, 1) := by decide +kernel
theorem dX3_remap_2 : decode cX3_remap 2 = .ok (.bipush 24, 2) := by decide +kernel
theorem dX3_remap_4 : decode cX3_remap 4 = .ok (.invokestatic 25, 3) := by decide +kernel
theorem dX3_remap_7 : decode cX3_remap 7 = .ok (.ifCond .eq 10, 3) := by decide +kernel
theorem dX3_remap_10 : decode cX3_remap 10 = .ok (.aload_n 0, 1) := by decide +kernel
theorem dX3_remap_11 : decode cX3_remap 11 = .ok (.getfield 9, 3) := by decide +kernel
theorem dX3_remap_14 : decode cX3_remap 14 = .ok (.iload_n 1, 1) := by decide +kernel
theorem dX3_remap_15 : decode cX3_remap 15 = .ok (.iload_n 2, 1) := by decide +kernel
theorem dX3_remap_16 : decode cX3_remap 16 = .ok (.iastore, 1) := by decide +kernel
theorem dX3_remap_17 : decode cX3_remap 17 = .ok (.return_, 1) := by decide +kernel
theorem dX3_torqueAt_0 : decode cX3_torqueAt 0 = .ok (.iload_n 1, 1) := by decide +kernel
theorem dX3_torqueAt_1 : decode cX3_torqueAt 1 = .ok (.sipush 2000, 3) := by decide +kernel
theorem dX3_torqueAt_4 : decode cX3_torqueAt 4 = .ok (.idiv, 1) := by decide +kernel
theorem dX3_torqueAt_5 : decode cX3_torqueAt 5 = .ok (.iconst 3, 1) := by decide +kernel
theorem dX3_torqueAt_6 : decode cX3_torqueAt 6 = .ok (.invokestatic 29, 3) := by decide +kernel
theorem dX3_torqueAt_9 : decode cX3_torqueAt 9 = .ok (.istore_n 3, 1) := by decide +kernel
theorem dX3_torqueAt_10 : decode cX3_torqueAt 10 = .ok (.iload_n 2, 1) := by decide +kernel
theorem dX3_torqueAt_11 : decode cX3_torqueAt 11 = .ok (.sipush 250, 3) := by decide +kernel
theorem dX3_torqueAt_14 : decode cX3_torqueAt 14 = .ok (.idiv, 1) := by decide +kernel
theorem dX3_torqueAt_15 : decode cX3_torqueAt 15 = .ok (.iconst 3, 1) := by decide +kernel
theorem dX3_torqueAt_16 : decode cX3_torqueAt 16 = .ok (.invokestatic 29, 3) := by decide +kernel
theorem dX3_torqueAt_19 : decode cX3_torqueAt 19 = .ok (.istore 4, 2) := by decide +kernel
theorem dX3_torqueAt_21 : decode cX3_torqueAt 21 = .ok (.iconst 5, 1) := by decide +kernel
theorem dX3_torqueAt_22 : decode cX3_torqueAt 22 = .ok (.iload_n 3, 1) := by decide +kernel
theorem dX3_torqueAt_23 : decode cX3_torqueAt 23 = .ok (.imul, 1) := by decide +kernel
theorem dX3_torqueAt_24 : decode cX3_torqueAt 24 = .ok (.iload 4, 2) := by decide +kernel
theorem dX3_torqueAt_26 : decode cX3_torqueAt 26 = .ok (.iadd, 1) := by decide +kernel
theorem dX3_torqueAt_27 : decode cX3_torqueAt 27 = .ok (.istore 5, 2) := by decide +kernel
theorem dX3_torqueAt_29 : decode cX3_torqueAt 29 = .ok (.iload_n 1, 1) := by decide +kernel
theorem dX3_torqueAt_30 : decode cX3_torqueAt 30 = .ok (.sipush 2000, 3) := by decide +kernel
theorem dX3_torqueAt_33 : decode cX3_torqueAt 33 = .ok (.iload_n 3, 1) := by decide +kernel
theorem dX3_torqueAt_34 : decode cX3_torqueAt 34 = .ok (.imul, 1) := by decide +kernel
theorem dX3_torqueAt_35 : decode cX3_torqueAt 35 = .ok (.isub, 1) := by decide +kernel
theorem dX3_torqueAt_36 : decode cX3_torqueAt 36 = .ok (.i2l, 1) := by decide +kernel
theorem dX3_torqueAt_37 : decode cX3_torqueAt 37 = .ok (.lstore 6, 2) := by decide +kernel
theorem dX3_torqueAt_39 : decode cX3_torqueAt 39 = .ok (.iload_n 2, 1) := by decide +kernel
theorem dX3_torqueAt_40 : decode cX3_torqueAt 40 = .ok (.sipush 250, 3) := by decide +kernel
theorem dX3_torqueAt_43 : decode cX3_torqueAt 43 = .ok (.iload 4, 2) := by decide +kernel
theorem dX3_torqueAt_45 : decode cX3_torqueAt 45 = .ok (.imul, 1) := by decide +kernel
theorem dX3_torqueAt_46 : decode cX3_torqueAt 46 = .ok (.isub, 1) := by decide +kernel
theorem dX3_torqueAt_47 : decode cX3_torqueAt 47 = .ok (.i2l, 1) := by decide +kernel
theorem dX3_torqueAt_48 : decode cX3_torqueAt 48 = .ok (.lstore 8, 2) := by decide +kernel
theorem dX3_torqueAt_50 : decode cX3_torqueAt 50 = .ok (.aload_n 0, 1) := by decide +kernel
theorem dX3_torqueAt_51 : decode cX3_torqueAt 51 = .ok (.iload 5, 2) := by decide +kernel
theorem dX3_torqueAt_53 : decode cX3_torqueAt 53 = .ok (.invokevirtual 35, 3) := by decide +kernel
theorem dX3_torqueAt_56 : decode cX3_torqueAt 56 = .ok (.i2l, 1) := by decide +kernel
theorem dX3_torqueAt_57 : decode cX3_torqueAt 57 = .ok (.ldc2_w 39, 3) := by decide +kernel
theorem dX3_torqueAt_60 : decode cX3_torqueAt 60 = .ok (.lload 6, 2) := by decide +kernel
theorem dX3_torqueAt_62 : decode cX3_torqueAt 62 = .ok (.lsub, 1) := by decide +kernel
theorem dX3_torqueAt_63 : decode cX3_torqueAt 63 = .ok (.lmul, 1) := by decide +kernel
theorem dX3_torqueAt_64 : decode cX3_torqueAt 64 = .ok (.ldc2_w 41, 3) := by decide +kernel
theorem dX3_torqueAt_67 : decode cX3_torqueAt 67 = .ok (.lload 8, 2) := by decide +kernel
theorem dX3_torqueAt_69 : decode cX3_torqueAt 69 = .ok (.lsub, 1) := by decide +kernel
theorem dX3_torqueAt_70 : decode cX3_torqueAt 70 = .ok (.lmul, 1) := by decide +kernel
theorem dX3_torqueAt_71 : decode cX3_torqueAt 71 = .ok (.aload_n 0, 1) := by decide +kernel
theorem dX3_torqueAt_72 : decode cX3_torqueAt 72 = .ok (.iload 5, 2) := by decide +kernel
theorem dX3_torqueAt_74 : decode cX3_torqueAt 74 = .ok (.iconst 5, 1) := by decide +kernel
theorem dX3_torqueAt_75 : decode cX3_torqueAt 75 = .ok (.iadd, 1) := by decide +kernel
theorem dX3_torqueAt_76 : decode cX3_torqueAt 76 = .ok (.invokevirtual 35, 3) := by decide +kernel
theorem dX3_torqueAt_79 : decode cX3_torqueAt 79 = .ok (.i2l, 1) := by decide +kernel
theorem dX3_torqueAt_80 : decode cX3_torqueAt 80 = .ok (.lload 6, 2) := by decide +kernel
theorem dX3_torqueAt_82 : decode cX3_torqueAt 82 = .ok (.lmul, 1) := by decide +kernel
theorem dX3_torqueAt_83 : decode cX3_torqueAt 83 = .ok (.ldc2_w 41, 3) := by decide +kernel
theorem dX3_torqueAt_86 : decode cX3_torqueAt 86 = .ok (.lload 8, 2) := by decide +kernel
theorem dX3_torqueAt_88 : decode cX3_torqueAt 88 = .ok (.lsub, 1) := by decide +kernel
theorem dX3_torqueAt_89 : decode cX3_torqueAt 89 = .ok (.lmul, 1) := by decide +kernel
theorem dX3_torqueAt_90 : decode cX3_torqueAt 90 = .ok (.ladd, 1) := by decide +kernel
theorem dX3_torqueAt_91 : decode cX3_torqueAt 91 = .ok (.aload_n 0, 1) := by decide +kernel
theorem dX3_torqueAt_92 : decode cX3_torqueAt 92 = .ok (.iload 5, 2) := by decide +kernel
theorem dX3_torqueAt_94 : decode cX3_torqueAt 94 = .ok (.iconst 1, 1) := by decide +kernel
theorem dX3_torqueAt_95 : decode cX3_torqueAt 95 = .ok (.iadd, 1) := by decide +kernel
theorem dX3_torqueAt_96 : decode cX3_torqueAt 96 = .ok (.invokevirtual 35, 3) := by decide +kernel
theorem dX3_torqueAt_99 : decode cX3_torqueAt 99 = .ok (.i2l, 1) := by decide +kernel
theorem dX3_torqueAt_100 : decode cX3_torqueAt 100 = .ok (.ldc2_w 39, 3) := by decide +kernel
theorem dX3_torqueAt_103 : decode cX3_torqueAt 103 = .ok (.lload 6, 2) := by decide +kernel
theorem dX3_torqueAt_105 : decode cX3_torqueAt 105 = .ok (.lsub, 1) := by decide +kernel
theorem dX3_torqueAt_106 : decode cX3_torqueAt 106 = .ok (.lmul, 1) := by decide +kernel
theorem dX3_torqueAt_107 : decode cX3_torqueAt 107 = .ok (.lload 8, 2) := by decide +kernel
theorem dX3_torqueAt_109 : decode cX3_torqueAt 109 = .ok (.lmul, 1) := by decide +kernel
theorem dX3_torqueAt_110 : decode cX3_torqueAt 110 = .ok (.ladd, 1) := by decide +kernel
theorem dX3_torqueAt_111 : decode cX3_torqueAt 111 = .ok (.aload_n 0, 1) := by decide +kernel
theorem dX3_torqueAt_112 : decode cX3_torqueAt 112 = .ok (.iload 5, 2) := by decide +kernel
theorem dX3_torqueAt_114 : decode cX3_torqueAt 114 = .ok (.bipush 6, 2) := by decide +kernel
theorem dX3_torqueAt_116 : decode cX3_torqueAt 116 = .ok (.iadd, 1) := by decide +kernel
theorem dX3_torqueAt_117 : decode cX3_torqueAt 117 = .ok (.invokevirtual 35, 3) := by decide +kernel
theorem dX3_torqueAt_120 : decode cX3_torqueAt 120 = .ok (.i2l, 1) := by decide +kernel
theorem dX3_torqueAt_121 : decode cX3_torqueAt 121 = .ok (.lload 6, 2) := by decide +kernel
theorem dX3_torqueAt_123 : decode cX3_torqueAt 123 = .ok (.lmul, 1) := by decide +kernel
theorem dX3_torqueAt_124 : decode cX3_torqueAt 124 = .ok (.lload 8, 2) := by decide +kernel
theorem dX3_torqueAt_126 : decode cX3_torqueAt 126 = .ok (.lmul, 1) := by decide +kernel
theorem dX3_torqueAt_127 : decode cX3_torqueAt 127 = .ok (.ladd, 1) := by decide +kernel
theorem dX3_torqueAt_128 : decode cX3_torqueAt 128 = .ok (.lstore 10, 2) := by decide +kernel
theorem dX3_torqueAt_130 : decode cX3_torqueAt 130 = .ok (.lload 10, 2) := by decide +kernel
theorem dX3_torqueAt_132 : decode cX3_torqueAt 132 = .ok (.ldc2_w 43, 3) := by decide +kernel
theorem dX3_torqueAt_135 : decode cX3_torqueAt 135 = .ok (.ldiv, 1) := by decide +kernel
theorem dX3_torqueAt_136 : decode cX3_torqueAt 136 = .ok (.l2i, 1) := by decide +kernel
theorem dX3_torqueAt_137 : decode cX3_torqueAt 137 = .ok (.ireturn, 1) := by decide +kernel
theorem dX3_part_0 : decode cX3_part 0 = .ok (.iload_n 1, 1) := by decide +kernel
theorem dX3_part_1 : decode cX3_part 1 = .ok (.iconst 0, 1) := by decide +kernel
theorem dX3_part_2 : decode cX3_part 2 = .ok (.sipush 3000, 3) := by decide +kernel
theorem dX3_part_5 : decode cX3_part 5 = .ok (.invokestatic 25, 3) := by decide +kernel
theorem dX3_part_8 : decode cX3_part 8 = .ok (.ifCond .eq 13, 3) := by decide +kernel
theorem dX3_part_11 : decode cX3_part 11 = .ok (.iload_n 2, 1) := by decide +kernel
theorem dX3_part_12 : decode cX3_part 12 = .ok (.iconst 0, 1) := by decide +kernel
theorem dX3_part_13 : decode cX3_part 13 = .ok (.bipush 6, 2) := by decide +kernel
theorem dX3_part_15 : decode cX3_part 15 = .ok (.invokestatic 25, 3) := by decide +kernel
theorem dX3_part_18 : decode cX3_part 18 = .ok (.ifCond .ne 5, 3) := by decide +kernel
theorem dX3_part_21 : decode cX3_part 21 = .ok (.iconst 0, 1) := by decide +kernel
theorem dX3_part_22 : decode cX3_part 22 = .ok (.ireturn, 1) := by decide +kernel
theorem dX3_part_23 : decode cX3_part 23 = .ok (.aload_n 0, 1) := by decide +kernel
theorem dX3_part_24 : decode cX3_part 24 = .ok (.getfield 15, 3) := by decide +kernel
theorem dX3_part_27 : decode cX3_part 27 = .ok (.iload_n 1, 1) := by decide +kernel
theorem dX3_part_28 : decode cX3_part 28 = .ok (.bipush 7, 2) := by decide +kernel
theorem dX3_part_30 : decode cX3_part 30 = .ok (.imul, 1) := by decide +kernel
theorem dX3_part_31 : decode cX3_part 31 = .ok (.iload_n 2, 1) := by decide +kernel
theorem dX3_part_32 : decode cX3_part 32 = .ok (.iadd, 1) := by decide +kernel
theorem dX3_part_33 : decode cX3_part 33 = .ok (.iaload, 1) := by decide +kernel
theorem dX3_part_34 : decode cX3_part 34 = .ok (.ireturn, 1) := by decide +kernel
theorem dX3_latest_0 : decode cX3_latest 0 = .ok (.aload_n 0, 1) := by decide +kernel
theorem dX3_latest_1 : decode cX3_latest 1 = .ok (.aload_n 0, 1) := by decide +kernel
theorem dX3_latest_2 : decode cX3_latest 2 = .ok (.getfield 22, 3) := by decide +kernel
theorem dX3_latest_5 : decode cX3_latest 5 = .ok (.iload_n 1, 1) := by decide +kernel
theorem dX3_latest_6 : decode cX3_latest 6 = .ok (.invokevirtual 45, 3) := by decide +kernel
theorem dX3_latest_9 : decode cX3_latest 9 = .ok (.ireturn, 1) := by decide +kernel
theorem dX3_advance_0 : decode cX3_advance 0 = .ok (.aload_n 0, 1) := by decide +kernel
theorem dX3_advance_1 : decode cX3_advance 1 = .ok (.getfield 22, 3) := by decide +kernel
theorem dX3_advance_4 : decode cX3_advance 4 = .ok (.iconst 0, 1) := by decide +kernel
theorem dX3_advance_5 : decode cX3_advance 5 = .ok (.sipush 2999, 3) := by decide +kernel
theorem dX3_advance_8 : decode cX3_advance 8 = .ok (.invokestatic 25, 3) := by decide +kernel
theorem dX3_advance_11 : decode cX3_advance 11 = .ok (.ifCond .ne 4, 3) := by decide +kernel
theorem dX3_advance_14 : decode cX3_advance 14 = .ok (.return_, 1) := by decide +kernel
theorem dX3_advance_15 : decode cX3_advance 15 = .ok (.aload_n 0, 1) := by decide +kernel
theorem dX3_advance_16 : decode cX3_advance 16 = .ok (.iconst 0, 1) := by decide +kernel
theorem dX3_advance_17 : decode cX3_advance 17 = .ok (.invokevirtual 48, 3) := by decide +kernel
theorem dX3_advance_20 : decode cX3_advance 20 = .ok (.aload_n 0, 1) := by decide +kernel
theorem dX3_advance_21 : decode cX3_advance 21 = .ok (.aload_n 0, 1) := by decide +kernel
theorem dX3_advance_22 : decode cX3_advance 22 = .ok (.iconst 0, 1) := by decide +kernel
theorem dX3_advance_23 : decode cX3_advance 23 = .ok (.invokevirtual 48, 3) := by decide +kernel
theorem dX3_advance_26 : decode cX3_advance 26 = .ok (.iload_n 1, 1) := by decide +kernel
theorem dX3_advance_27 : decode cX3_advance 27 = .ok (.invokevirtual 51, 3) := by decide +kernel
theorem dX3_advance_30 : decode cX3_advance 30 = .ok (.iadd, 1) := by decide +kernel
theorem dX3_advance_31 : decode cX3_advance 31 = .ok (.istore_n 3, 1) := by decide +kernel
theorem dX3_advance_32 : decode cX3_advance 32 = .ok (.aload_n 0, 1) := by decide +kernel
theorem dX3_advance_33 : decode cX3_advance 33 = .ok (.iload_n 3, 1) := by decide +kernel
theorem dX3_advance_34 : decode cX3_advance 34 = .ok (.iload_n 2, 1) := by decide +kernel
theorem dX3_advance_35 : decode cX3_advance 35 = .ok (.invokevirtual 54, 3) := by decide +kernel
theorem dX3_advance_38 : decode cX3_advance 38 = .ok (.istore 4, 2) := by decide +kernel
theorem dX3_advance_40 : decode cX3_advance 40 = .ok (.iconst 0, 1) := by decide +kernel
theorem dX3_advance_41 : decode cX3_advance 41 = .ok (.iload_n 3, 1) := by decide +kernel
theorem dX3_advance_42 : decode cX3_advance 42 = .ok (.iload 4, 2) := by decide +kernel
theorem dX3_advance_44 : decode cX3_advance 44 = .ok (.bipush 50, 2) := by decide +kernel
theorem dX3_advance_46 : decode cX3_advance 46 = .ok (.iadd, 1) := by decide +kernel
theorem dX3_advance_47 : decode cX3_advance 47 = .ok (.imul, 1) := by decide +kernel
theorem dX3_advance_48 : decode cX3_advance 48 = .ok (.sipush 1000, 3) := by decide +kernel
theorem dX3_advance_51 : decode cX3_advance 51 = .ok (.idiv, 1) := by decide +kernel
theorem dX3_advance_52 : decode cX3_advance 52 = .ok (.invokestatic 57, 3) := by decide +kernel
theorem dX3_advance_55 : decode cX3_advance 55 = .ok (.istore 5, 2) := by decide +kernel
theorem dX3_advance_57 : decode cX3_advance 57 = .ok (.aload_n 0, 1) := by decide +kernel
theorem dX3_advance_58 : decode cX3_advance 58 = .ok (.iconst 3, 1) := by decide +kernel
theorem dX3_advance_59 : decode cX3_advance 59 = .ok (.invokevirtual 48, 3) := by decide +kernel
theorem dX3_advance_62 : decode cX3_advance 62 = .ok (.iload 5, 2) := by decide +kernel
theorem dX3_advance_64 : decode cX3_advance 64 = .ok (.iconst 2, 1) := by decide +kernel
theorem dX3_advance_65 : decode cX3_advance 65 = .ok (.aload_n 0, 1) := by decide +kernel
theorem dX3_advance_66 : decode cX3_advance 66 = .ok (.iconst 3, 1) := by decide +kernel
theorem dX3_advance_67 : decode cX3_advance 67 = .ok (.invokevirtual 48, 3) := by decide +kernel
theorem dX3_advance_70 : decode cX3_advance 70 = .ok (.bipush 20, 2) := by decide +kernel
theorem dX3_advance_72 : decode cX3_advance 72 = .ok (.isub, 1) := by decide +kernel
theorem dX3_advance_73 : decode cX3_advance 73 = .ok (.imul, 1) := by decide +kernel
theorem dX3_advance_74 : decode cX3_advance 74 = .ok (.isub, 1) := by decide +kernel
theorem dX3_advance_75 : decode cX3_advance 75 = .ok (.bipush 16, 2) := by decide +kernel
theorem dX3_advance_77 : decode cX3_advance 77 = .ok (.idiv, 1) := by decide +kernel
theorem dX3_advance_78 : decode cX3_advance 78 = .ok (.iadd, 1) := by decide +kernel
theorem dX3_advance_79 : decode cX3_advance 79 = .ok (.istore 6, 2) := by decide +kernel
theorem dX3_advance_81 : decode cX3_advance 81 = .ok (.iload 4, 2) := by decide +kernel
theorem dX3_advance_83 : decode cX3_advance 83 = .ok (.aload_n 0, 1) := by decide +kernel
theorem dX3_advance_84 : decode cX3_advance 84 = .ok (.iconst 1, 1) := by decide +kernel
theorem dX3_advance_85 : decode cX3_advance 85 = .ok (.invokevirtual 48, 3) := by decide +kernel
theorem dX3_advance_88 : decode cX3_advance 88 = .ok (.isub, 1) := by decide +kernel
theorem dX3_advance_89 : decode cX3_advance 89 = .ok (.istore 7, 2) := by decide +kernel
theorem dX3_advance_91 : decode cX3_advance 91 = .ok (.iload 7, 2) := by decide +kernel
theorem dX3_advance_93 : decode cX3_advance 93 = .ok (.ifCond .le 10, 3) := by decide +kernel
theorem dX3_advance_96 : decode cX3_advance 96 = .ok (.iconst 3, 1) := by decide +kernel
theorem dX3_advance_97 : decode cX3_advance 97 = .ok (.iload 7, 2) := by decide +kernel
theorem dX3_advance_99 : decode cX3_advance 99 = .ok (.imul, 1) := by decide +kernel
theorem dX3_advance_100 : decode cX3_advance 100 = .ok (.goto 10, 3) := by decide +kernel
theorem dX3_advance_103 : decode cX3_advance 103 = .ok (.aload_n 0, 1) := by decide +kernel
theorem dX3_advance_104 : decode cX3_advance 104 = .ok (.iconst 4, 1) := by decide +kernel
theorem dX3_advance_105 : decode cX3_advance 105 = .ok (.invokevirtual 48, 3) := by decide +kernel
theorem dX3_advance_108 : decode cX3_advance 108 = .ok (.iconst 2, 1) := by decide +kernel
theorem dX3_advance_109 : decode cX3_advance 109 = .ok (.idiv, 1) := by decide +kernel
theorem dX3_advance_110 : decode cX3_advance 110 = .ok (.istore 8, 2) := by decide +kernel
theorem dX3_advance_112 : decode cX3_advance 112 = .ok (.aload_n 0, 1) := by decide +kernel
theorem dX3_advance_113 : decode cX3_advance 113 = .ok (.dup, 1) := by decide +kernel
theorem dX3_advance_114 : decode cX3_advance 114 = .ok (.getfield 22, 3) := by decide +kernel
theorem dX3_advance_117 : decode cX3_advance 117 = .ok (.iconst 1, 1) := by decide +kernel
theorem dX3_advance_118 : decode cX3_advance 118 = .ok (.iadd, 1) := by decide +kernel
theorem dX3_advance_119 : decode cX3_advance 119 = .ok (.putfield 22, 3) := by decide +kernel
theorem dX3_advance_122 : decode cX3_advance 122 = .ok (.aload_n 0, 1) := by decide +kernel
theorem dX3_advance_123 : decode cX3_advance 123 = .ok (.getfield 22, 3) := by decide +kernel
theorem dX3_advance_126 : decode cX3_advance 126 = .ok (.bipush 7, 2) := by decide +kernel
theorem dX3_advance_128 : decode cX3_advance 128 = .ok (.imul, 1) := by decide +kernel
theorem dX3_advance_129 : decode cX3_advance 129 = .ok (.istore 9, 2) := by decide +kernel
theorem dX3_advance_131 : decode cX3_advance 131 = .ok (.aload_n 0, 1) := by decide +kernel
theorem dX3_advance_132 : decode cX3_advance 132 = .ok (.getfield 15, 3) := by decide +kernel
theorem dX3_advance_135 : decode cX3_advance 135 = .ok (.iload 9, 2) := by decide +kernel
theorem dX3_advance_137 : decode cX3_advance 137 = .ok (.iconst 0, 1) := by decide +kernel
theorem dX3_advance_138 : decode cX3_advance 138 = .ok (.iadd, 1) := by decide +kernel
theorem dX3_advance_139 : decode cX3_advance 139 = .ok (.iload_n 3, 1) := by decide +kernel
theorem dX3_advance_140 : decode cX3_advance 140 = .ok (.iastore, 1) := by decide +kernel
theorem dX3_advance_141 : decode cX3_advance 141 = .ok (.aload_n 0, 1) := by decide +kernel
theorem dX3_advance_142 : decode cX3_advance 142 = .ok (.getfield 15, 3) := by decide +kernel
theorem dX3_advance_145 : decode cX3_advance 145 = .ok (.iload 9, 2) := by decide +kernel
theorem dX3_advance_147 : decode cX3_advance 147 = .ok (.iconst 1, 1) := by decide +kernel
theorem dX3_advance_148 : decode cX3_advance 148 = .ok (.iadd, 1) := by decide +kernel
theorem dX3_advance_149 : decode cX3_advance 149 = .ok (.iload 4, 2) := by decide +kernel
theorem dX3_advance_151 : decode cX3_advance 151 = .ok (.iastore, 1) := by decide +kernel
theorem dX3_advance_152 : decode cX3_advance 152 = .ok (.aload_n 0, 1) := by decide +kernel
theorem dX3_advance_153 : decode cX3_advance 153 = .ok (.getfield 15, 3) := by decide +kernel
theorem dX3_advance_156 : decode cX3_advance 156 = .ok (.iload 9, 2) := by decide +kernel
theorem dX3_advance_158 : decode cX3_advance 158 = .ok (.iconst 2, 1) := by decide +kernel
theorem dX3_advance_159 : decode cX3_advance 159 = .ok (.iadd, 1) := by decide +kernel
theorem dX3_advance_160 : decode cX3_advance 160 = .ok (.iload 5, 2) := by decide +kernel
theorem dX3_advance_162 : decode cX3_advance 162 = .ok (.iastore, 1) := by decide +kernel
theorem dX3_advance_163 : decode cX3_advance 163 = .ok (.aload_n 0, 1) := by decide +kernel
theorem dX3_advance_164 : decode cX3_advance 164 = .ok (.getfield 15, 3) := by decide +kernel
theorem dX3_advance_167 : decode cX3_advance 167 = .ok (.iload 9, 2) := by decide +kernel
theorem dX3_advance_169 : decode cX3_advance 169 = .ok (.iconst 3, 1) := by decide +kernel
theorem dX3_advance_170 : decode cX3_advance 170 = .ok (.iadd, 1) := by decide +kernel
theorem dX3_advance_171 : decode cX3_advance 171 = .ok (.iload 6, 2) := by decide +kernel
theorem dX3_advance_173 : decode cX3_advance 173 = .ok (.iastore, 1) := by decide +kernel
theorem dX3_advance_174 : decode cX3_advance 174 = .ok (.aload_n 0, 1) := by decide +kernel
theorem dX3_advance_175 : decode cX3_advance 175 = .ok (.getfield 15, 3) := by decide +kernel
theorem dX3_advance_178 : decode cX3_advance 178 = .ok (.iload 9, 2) := by decide +kernel
theorem dX3_advance_180 : decode cX3_advance 180 = .ok (.iconst 4, 1) := by decide +kernel
theorem dX3_advance_181 : decode cX3_advance 181 = .ok (.iadd, 1) := by decide +kernel
theorem dX3_advance_182 : decode cX3_advance 182 = .ok (.iload 8, 2) := by decide +kernel
theorem dX3_advance_184 : decode cX3_advance 184 = .ok (.iastore, 1) := by decide +kernel
theorem dX3_advance_185 : decode cX3_advance 185 = .ok (.aload_n 0, 1) := by decide +kernel
theorem dX3_advance_186 : decode cX3_advance 186 = .ok (.getfield 15, 3) := by decide +kernel
theorem dX3_advance_189 : decode cX3_advance 189 = .ok (.iload 9, 2) := by decide +kernel
theorem dX3_advance_191 : decode cX3_advance 191 = .ok (.iconst 5, 1) := by decide +kernel
theorem dX3_advance_192 : decode cX3_advance 192 = .ok (.iadd, 1) := by decide +kernel
theorem dX3_advance_193 : decode cX3_advance 193 = .ok (.iload_n 1, 1) := by decide +kernel
theorem dX3_advance_194 : decode cX3_advance 194 = .ok (.iastore, 1) := by decide +kernel
theorem dX3_advance_195 : decode cX3_advance 195 = .ok (.aload_n 0, 1) := by decide +kernel
theorem dX3_advance_196 : decode cX3_advance 196 = .ok (.getfield 15, 3) := by decide +kernel
theorem dX3_advance_199 : decode cX3_advance 199 = .ok (.iload 9, 2) := by decide +kernel
theorem dX3_advance_201 : decode cX3_advance 201 = .ok (.bipush 6, 2) := by decide +kernel
theorem dX3_advance_203 : decode cX3_advance 203 = .ok (.iadd, 1) := by decide +kernel
theorem dX3_advance_204 : decode cX3_advance 204 = .ok (.iload_n 2, 1) := by decide +kernel
theorem dX3_advance_205 : decode cX3_advance 205 = .ok (.iastore, 1) := by decide +kernel
theorem dX3_advance_206 : decode cX3_advance 206 = .ok (.return_, 1) := by decide +kernel
theorem dX3_change_0 : decode cX3_change 0 = .ok (.aload_n 0, 1) := by decide +kernel
theorem dX3_change_1 : decode cX3_change 1 = .ok (.getfield 18, 3) := by decide +kernel
theorem dX3_change_4 : decode cX3_change 4 = .ok (.ifCond .le 14, 3) := by decide +kernel
theorem dX3_change_7 : decode cX3_change 7 = .ok (.iload_n 2, 1) := by decide +kernel
theorem dX3_change_8 : decode cX3_change 8 = .ok (.iload_n 1, 1) := by decide +kernel
theorem dX3_change_9 : decode cX3_change 9 = .ok (.isub, 1) := by decide +kernel
theorem dX3_change_10 : decode cX3_change 10 = .ok (.aload_n 0, 1) := by decide +kernel
theorem dX3_change_11 : decode cX3_change 11 = .ok (.getfield 18, 3) := by decide +kernel
theorem dX3_change_14 : decode cX3_change 14 = .ok (.idiv, 1) := by decide +kernel
theorem dX3_change_15 : decode cX3_change 15 = .ok (.goto 4, 3) := by decide +kernel
theorem dX3_change_18 : decode cX3_change 18 = .ok (.iconst 0, 1) := by decide +kernel
theorem dX3_change_19 : decode cX3_change 19 = .ok (.istore_n 3, 1) := by decide +kernel
theorem dX3_change_20 : decode cX3_change 20 = .ok (.iload_n 3, 1) := by decide +kernel
theorem dX3_change_21 : decode cX3_change 21 = .ok (.ifCond .eq 7, 3) := by decide +kernel
theorem dX3_change_24 : decode cX3_change 24 = .ok (.iload_n 3, 1) := by decide +kernel
theorem dX3_change_25 : decode cX3_change 25 = .ok (.goto 8, 3) := by decide +kernel
theorem dX3_change_28 : decode cX3_change 28 = .ok (.iload_n 2, 1) := by decide +kernel
theorem dX3_change_29 : decode cX3_change 29 = .ok (.iload_n 1, 1) := by decide +kernel
theorem dX3_change_30 : decode cX3_change 30 = .ok (.invokestatic 60, 3) := by decide +kernel
theorem dX3_change_33 : decode cX3_change 33 = .ok (.ireturn, 1) := by decide +kernel
theorem dX4_init_0 : decode cX4_init 0 = .ok (.aload_n 0, 1) := by decide +kernel
theorem dX4_init_1 : decode cX4_init 1 = .ok (.invokespecial 3, 3) := by decide +kernel
theorem dX4_init_4 : decode cX4_init 4 = .ok (.aload_n 0, 1) := by decide +kernel
theorem dX4_init_5 : decode cX4_init 5 = .ok (.lconst 0, 1) := by decide +kernel
theorem dX4_init_6 : decode cX4_init 6 = .ok (.putfield 9, 3) := by decide +kernel
theorem dX4_init_9 : decode cX4_init 9 = .ok (.aload_n 0, 1) := by decide +kernel
theorem dX4_init_10 : decode cX4_init 10 = .ok (.lconst 0, 1) := by decide +kernel
theorem dX4_init_11 : decode cX4_init 11 = .ok (.putfield 15, 3) := by decide +kernel
theorem dX4_init_14 : decode cX4_init 14 = .ok (.aload_n 0, 1) := by decide +kernel
theorem dX4_init_15 : decode cX4_init 15 = .ok (.lconst 0, 1) := by decide +kernel
theorem dX4_init_16 : decode cX4_init 16 = .ok (.putfield 18, 3) := by decide +kernel
theorem dX4_init_19 : decode cX4_init 19 = .ok (.aload_n 0, 1) := by decide +kernel
theorem dX4_init_20 : decode cX4_init 20 = .ok (.lconst 0, 1) := by decide +kernel
theorem dX4_init_21 : decode cX4_init 21 = .ok (.putfield 21, 3) := by decide +kernel
theorem dX4_init_24 : decode cX4_init 24 = .ok (.aload_n 0, 1) := by decide +kernel
theorem dX4_init_25 : decode cX4_init 25 = .ok (.lconst 0, 1) := by decide +kernel
theorem dX4_init_26 : decode cX4_init 26 = .ok (.putfield 24, 3) := by decide +kernel
theorem dX4_init_29 : decode cX4_init 29 = .ok (.aload_n 0, 1) := by decide +kernel
theorem dX4_init_30 : decode cX4_init 30 = .ok (.lconst 0, 1) := by decide +kernel
theorem dX4_init_31 : decode cX4_init 31 = .ok (.putfield 27, 3) := by decide +kernel
theorem dX4_init_34 : decode cX4_init 34 = .ok (.aload_n 0, 1) := by decide +kernel
theorem dX4_init_35 : decode cX4_init 35 = .ok (.lconst 0, 1) := by decide +kernel
theorem dX4_init_36 : decode cX4_init 36 = .ok (.putfield 30, 3) := by decide +kernel
theorem dX4_init_39 : decode cX4_init 39 = .ok (.aload_n 0, 1) := by decide +kernel
theorem dX4_init_40 : decode cX4_init 40 = .ok (.aload_n 1, 1) := by decide +kernel
theorem dX4_init_41 : decode cX4_init 41 = .ok (.putfield 33, 3) := by decide +kernel
theorem dX4_init_44 : decode cX4_init 44 = .ok (.aload_n 0, 1) := by decide +kernel
theorem dX4_init_45 : decode cX4_init 45 = .ok (.aload_n 2, 1) := by decide +kernel
theorem dX4_init_46 : decode cX4_init 46 = .ok (.putfield 37, 3) := by decide +kernel
theorem dX4_init_49 : decode cX4_init 49 = .ok (.return_, 1) := by decide +kernel
theorem dX4_reckon_0 : decode cX4_reckon 0 = .ok (.aload_n 0, 1) := by decide +kernel
theorem dX4_reckon_1 : decode cX4_reckon 1 = .ok (.lconst 0, 1) := by decide +kernel
theorem dX4_reckon_2 : decode cX4_reckon 2 = .ok (.putfield 9, 3) := by decide +kernel
theorem dX4_reckon_5 : decode cX4_reckon 5 = .ok (.aload_n 0, 1) := by decide +kernel
theorem dX4_reckon_6 : decode cX4_reckon 6 = .ok (.lconst 0, 1) := by decide +kernel
theorem dX4_reckon_7 : decode cX4_reckon 7 = .ok (.putfield 15, 3) := by decide +kernel
theorem dX4_reckon_10 : decode cX4_reckon 10 = .ok (.aload_n 0, 1) := by decide +kernel
theorem dX4_reckon_11 : decode cX4_reckon 11 = .ok (.lconst 0, 1) := by decide +kernel
theorem dX4_reckon_12 : decode cX4_reckon 12 = .ok (.putfield 18, 3) := by decide +kernel
theorem dX4_reckon_15 : decode cX4_reckon 15 = .ok (.aload_n 0, 1) := by decide +kernel
theorem dX4_reckon_16 : decode cX4_reckon 16 = .ok (.lconst 0, 1) := by decide +kernel
theorem dX4_reckon_17 : decode cX4_reckon 17 = .ok (.putfield 21, 3) := by decide +kernel
theorem dX4_reckon_20 : decode cX4_reckon 20 = .ok (.aload_n 0, 1) := by decide +kernel
theorem dX4_reckon_21 : decode cX4_reckon 21 = .ok (.lconst 0, 1) := by decide +kernel
theorem dX4_reckon_22 : decode cX4_reckon 22 = .ok (.putfield 24, 3) := by decide +kernel
theorem dX4_reckon_25 : decode cX4_reckon 25 = .ok (.aload_n 0, 1) := by decide +kernel
theorem dX4_reckon_26 : decode cX4_reckon 26 = .ok (.lconst 0, 1) := by decide +kernel
theorem dX4_reckon_27 : decode cX4_reckon 27 = .ok (.putfield 27, 3) := by decide +kernel
theorem dX4_reckon_30 : decode cX4_reckon 30 = .ok (.aload_n 0, 1) := by decide +kernel
theorem dX4_reckon_31 : decode cX4_reckon 31 = .ok (.lconst 0, 1) := by decide +kernel
theorem dX4_reckon_32 : decode cX4_reckon 32 = .ok (.putfield 30, 3) := by decide +kernel
theorem dX4_reckon_35 : decode cX4_reckon 35 = .ok (.iconst 0, 1) := by decide +kernel
theorem dX4_reckon_36 : decode cX4_reckon 36 = .ok (.istore_n 2, 1) := by decide +kernel
theorem dX4_reckon_37 : decode cX4_reckon 37 = .ok (.iload_n 2, 1) := by decide +kernel
theorem dX4_reckon_38 : decode cX4_reckon 38 = .ok (.aload_n 0, 1) := by decide +kernel
theorem dX4_reckon_39 : decode cX4_reckon 39 = .ok (.getfield 33, 3) := by decide +kernel
theorem dX4_reckon_42 : decode cX4_reckon 42 = .ok (.getfield 41, 3) := by decide +kernel
theorem dX4_reckon_45 : decode cX4_reckon 45 = .ok (.if_icmp .gt 55, 3) := by decide +kernel
theorem dX4_reckon_48 : decode cX4_reckon 48 = .ok (.aload_n 0, 1) := by decide +kernel
theorem dX4_reckon_49 : decode cX4_reckon 49 = .ok (.getfield 37, 3) := by decide +kernel
theorem dX4_reckon_52 : decode cX4_reckon 52 = .ok (.aload_n 1, 1) := by decide +kernel
theorem dX4_reckon_53 : decode cX4_reckon 53 = .ok (.iload_n 2, 1) := by decide +kernel
theorem dX4_reckon_54 : decode cX4_reckon 54 = .ok (.invokevirtual 47, 3) := by decide +kernel
theorem dX4_reckon_57 : decode cX4_reckon 57 = .ok (.lstore_n 3, 1) := by decide +kernel
theorem dX4_reckon_58 : decode cX4_reckon 58 = .ok (.lload_n 3, 1) := by decide +kernel
theorem dX4_reckon_59 : decode cX4_reckon 59 = .ok (.ldc2_w 53, 3) := by decide +kernel
theorem dX4_reckon_62 : decode cX4_reckon 62 = .ok (.lcmp, 1) := by decide +kernel
theorem dX4_reckon_63 : decode cX4_reckon 63 = .ok (.ifCond .eq 23, 3) := by decide +kernel
theorem dX4_reckon_66 : decode cX4_reckon 66 = .ok (.aload_n 0, 1) := by decide +kernel
theorem dX4_reckon_67 : decode cX4_reckon 67 = .ok (.aload_n 0, 1) := by decide +kernel
theorem dX4_reckon_68 : decode cX4_reckon 68 = .ok (.getfield 33, 3) := by decide +kernel
theorem dX4_reckon_71 : decode cX4_reckon 71 = .ok (.iload_n 2, 1) := by decide +kernel
theorem dX4_reckon_72 : decode cX4_reckon 72 = .ok (.aload_n 1, 1) := by decide +kernel
theorem dX4_reckon_73 : decode cX4_reckon 73 = .ok (.getfield 55, 3) := by decide +kernel
theorem dX4_reckon_76 : decode cX4_reckon 76 = .ok (.isub, 1) := by decide +kernel
theorem dX4_reckon_77 : decode cX4_reckon 77 = .ok (.iconst 5, 1) := by decide +kernel
theorem dX4_reckon_78 : decode cX4_reckon 78 = .ok (.invokevirtual 60, 3) := by decide +kernel
theorem dX4_reckon_81 : decode cX4_reckon 81 = .ok (.i2l, 1) := by decide +kernel
theorem dX4_reckon_82 : decode cX4_reckon 82 = .ok (.lload_n 3, 1) := by decide +kernel
theorem dX4_reckon_83 : decode cX4_reckon 83 = .ok (.invokevirtual 64, 3) := by decide +kernel
theorem dX4_reckon_86 : decode cX4_reckon 86 = .ok (.iload_n 2, 1) := by decide +kernel
theorem dX4_reckon_87 : decode cX4_reckon 87 = .ok (.iconst 1, 1) := by decide +kernel
theorem dX4_reckon_88 : decode cX4_reckon 88 = .ok (.aload_n 1, 1) := by decide +kernel
theorem dX4_reckon_89 : decode cX4_reckon 89 = .ok (.getfield 68, 3) := by decide +kernel
theorem dX4_reckon_92 : decode cX4_reckon 92 = .ok (.invokestatic 71, 3) := by decide +kernel
theorem dX4_reckon_95 : decode cX4_reckon 95 = .ok (.iadd, 1) := by decide +kernel
theorem dX4_reckon_96 : decode cX4_reckon 96 = .ok (.istore_n 2, 1) := by decide +kernel
theorem dX4_reckon_97 : decode cX4_reckon 97 = .ok (.goto (-60), 3) := by decide +kernel
theorem dX4_reckon_100 : decode cX4_reckon 100 = .ok (.return_, 1) := by decide +kernel
theorem dX4_count_0 : decode cX4_count 0 = .ok (.aload_n 0, 1) := by decide +kernel
theorem dX4_count_1 : decode cX4_count 1 = .ok (.dup, 1) := by decide +kernel
theorem dX4_count_2 : decode cX4_count 2 = .ok (.getfield 9, 3) := by decide +kernel
theorem dX4_count_5 : decode cX4_count 5 = .ok (.lconst 1, 1) := by decide +kernel
theorem dX4_count_6 : decode cX4_count 6 = .ok (.ladd, 1) := by decide +kernel
theorem dX4_count_7 : decode cX4_count 7 = .ok (.putfield 9, 3) := by decide +kernel
theorem dX4_count_10 : decode cX4_count 10 = .ok (.aload_n 0, 1) := by decide +kernel
theorem dX4_count_11 : decode cX4_count 11 = .ok (.dup, 1) := by decide +kernel
theorem dX4_count_12 : decode cX4_count 12 = .ok (.getfield 15, 3) := by decide +kernel
theorem dX4_count_15 : decode cX4_count 15 = .ok (.lload_n 3, 1) := by decide +kernel
theorem dX4_count_16 : decode cX4_count 16 = .ok (.lload_n 1, 1) := by decide +kernel
theorem dX4_count_17 : decode cX4_count 17 = .ok (.lsub, 1) := by decide +kernel
theorem dX4_count_18 : decode cX4_count 18 = .ok (.ladd, 1) := by decide +kernel
theorem dX4_count_19 : decode cX4_count 19 = .ok (.putfield 15, 3) := by decide +kernel
theorem dX4_count_22 : decode cX4_count 22 = .ok (.aload_n 0, 1) := by decide +kernel
theorem dX4_count_23 : decode cX4_count 23 = .ok (.aload_n 0, 1) := by decide +kernel
theorem dX4_count_24 : decode cX4_count 24 = .ok (.getfield 18, 3) := by decide +kernel
theorem dX4_count_27 : decode cX4_count 27 = .ok (.lload_n 3, 1) := by decide +kernel
theorem dX4_count_28 : decode cX4_count 28 = .ok (.lload_n 1, 1) := by decide +kernel
theorem dX4_count_29 : decode cX4_count 29 = .ok (.lsub, 1) := by decide +kernel
theorem dX4_count_30 : decode cX4_count 30 = .ok (.invokestatic 76, 3) := by decide +kernel
theorem dX4_count_33 : decode cX4_count 33 = .ok (.invokestatic 80, 3) := by decide +kernel
theorem dX4_count_36 : decode cX4_count 36 = .ok (.putfield 18, 3) := by decide +kernel
theorem dX4_count_39 : decode cX4_count 39 = .ok (.aload_n 0, 1) := by decide +kernel
theorem dX4_count_40 : decode cX4_count 40 = .ok (.dup, 1) := by decide +kernel
theorem dX4_count_41 : decode cX4_count 41 = .ok (.getfield 21, 3) := by decide +kernel
theorem dX4_count_44 : decode cX4_count 44 = .ok (.lload_n 1, 1) := by decide +kernel
theorem dX4_count_45 : decode cX4_count 45 = .ok (.ladd, 1) := by decide +kernel
theorem dX4_count_46 : decode cX4_count 46 = .ok (.putfield 21, 3) := by decide +kernel
theorem dX4_count_49 : decode cX4_count 49 = .ok (.aload_n 0, 1) := by decide +kernel
theorem dX4_count_50 : decode cX4_count 50 = .ok (.dup, 1) := by decide +kernel
theorem dX4_count_51 : decode cX4_count 51 = .ok (.getfield 24, 3) := by decide +kernel
theorem dX4_count_54 : decode cX4_count 54 = .ok (.lload_n 3, 1) := by decide +kernel
theorem dX4_count_55 : decode cX4_count 55 = .ok (.ladd, 1) := by decide +kernel
theorem dX4_count_56 : decode cX4_count 56 = .ok (.putfield 24, 3) := by decide +kernel
theorem dX4_count_59 : decode cX4_count 59 = .ok (.aload_n 0, 1) := by decide +kernel
theorem dX4_count_60 : decode cX4_count 60 = .ok (.dup, 1) := by decide +kernel
theorem dX4_count_61 : decode cX4_count 61 = .ok (.getfield 27, 3) := by decide +kernel
theorem dX4_count_64 : decode cX4_count 64 = .ok (.lload_n 1, 1) := by decide +kernel
theorem dX4_count_65 : decode cX4_count 65 = .ok (.lload_n 1, 1) := by decide +kernel
theorem dX4_count_66 : decode cX4_count 66 = .ok (.lmul, 1) := by decide +kernel
theorem dX4_count_67 : decode cX4_count 67 = .ok (.ladd, 1) := by decide +kernel
theorem dX4_count_68 : decode cX4_count 68 = .ok (.putfield 27, 3) := by decide +kernel
theorem dX4_count_71 : decode cX4_count 71 = .ok (.aload_n 0, 1) := by decide +kernel
theorem dX4_count_72 : decode cX4_count 72 = .ok (.dup, 1) := by decide +kernel
theorem dX4_count_73 : decode cX4_count 73 = .ok (.getfield 30, 3) := by decide +kernel
theorem dX4_count_76 : decode cX4_count 76 = .ok (.lload_n 1, 1) := by decide +kernel
theorem dX4_count_77 : decode cX4_count 77 = .ok (.lload_n 3, 1) := by decide +kernel
theorem dX4_count_78 : decode cX4_count 78 = .ok (.lmul, 1) := by decide +kernel
theorem dX4_count_79 : decode cX4_count 79 = .ok (.ladd, 1) := by decide +kernel
theorem dX4_count_80 : decode cX4_count 80 = .ok (.putfield 30, 3) := by decide +kernel
theorem dX4_count_83 : decode cX4_count 83 = .ok (.return_, 1) := by decide +kernel
theorem dX4_a_0 : decode cX4_a 0 = .ok (.aload_n 0, 1) := by decide +kernel
theorem dX4_a_1 : decode cX4_a 1 = .ok (.getfield 9, 3) := by decide +kernel
theorem dX4_a_4 : decode cX4_a 4 = .ok (.aload_n 0, 1) := by decide +kernel
theorem dX4_a_5 : decode cX4_a 5 = .ok (.getfield 30, 3) := by decide +kernel
theorem dX4_a_8 : decode cX4_a 8 = .ok (.lmul, 1) := by decide +kernel
theorem dX4_a_9 : decode cX4_a 9 = .ok (.aload_n 0, 1) := by decide +kernel
theorem dX4_a_10 : decode cX4_a 10 = .ok (.getfield 21, 3) := by decide +kernel
theorem dX4_a_13 : decode cX4_a 13 = .ok (.aload_n 0, 1) := by decide +kernel
theorem dX4_a_14 : decode cX4_a 14 = .ok (.getfield 24, 3) := by decide +kernel
theorem dX4_a_17 : decode cX4_a 17 = .ok (.lmul, 1) := by decide +kernel
theorem dX4_a_18 : decode cX4_a 18 = .ok (.lsub, 1) := by decide +kernel
theorem dX4_a_19 : decode cX4_a 19 = .ok (.lreturn, 1) := by decide +kernel
theorem dX4_b_0 : decode cX4_b 0 = .ok (.aload_n 0, 1) := by decide +kernel
theorem dX4_b_1 : decode cX4_b 1 = .ok (.getfield 9, 3) := by decide +kernel
theorem dX4_b_4 : decode cX4_b 4 = .ok (.aload_n 0, 1) := by decide +kernel
theorem dX4_b_5 : decode cX4_b 5 = .ok (.getfield 27, 3) := by decide +kernel
theorem dX4_b_8 : decode cX4_b 8 = .ok (.lmul, 1) := by decide +kernel
theorem dX4_b_9 : decode cX4_b 9 = .ok (.aload_n 0, 1) := by decide +kernel
theorem dX4_b_10 : decode cX4_b 10 = .ok (.getfield 21, 3) := by decide +kernel
theorem dX4_b_13 : decode cX4_b 13 = .ok (.aload_n 0, 1) := by decide +kernel
theorem dX4_b_14 : decode cX4_b 14 = .ok (.getfield 21, 3) := by decide +kernel
theorem dX4_b_17 : decode cX4_b 17 = .ok (.lmul, 1) := by decide +kernel
theorem dX4_b_18 : decode cX4_b 18 = .ok (.lsub, 1) := by decide +kernel
theorem dX4_b_19 : decode cX4_b 19 = .ok (.lreturn, 1) := by decide +kernel
theorem dX4_verdict_0 : decode cX4_verdict 0 = .ok (.aload_n 0, 1) := by decide +kernel
theorem dX4_verdict_1 : decode cX4_verdict 1 = .ok (.invokevirtual 83, 3) := by decide +kernel
theorem dX4_verdict_4 : decode cX4_verdict 4 = .ok (.lconst 0, 1) := by decide +kernel
theorem dX4_verdict_5 : decode cX4_verdict 5 = .ok (.lcmp, 1) := by decide +kernel
theorem dX4_verdict_6 : decode cX4_verdict 6 = .ok (.ifCond .le 43, 3) := by decide +kernel
theorem dX4_verdict_9 : decode cX4_verdict 9 = .ok (.ldc2_w 87, 3) := by decide +kernel
theorem dX4_verdict_12 : decode cX4_verdict 12 = .ok (.aload_n 0, 1) := by decide +kernel
theorem dX4_verdict_13 : decode cX4_verdict 13 = .ok (.invokevirtual 83, 3) := by decide +kernel
theorem dX4_verdict_16 : decode cX4_verdict 16 = .ok (.lmul, 1) := by decide +kernel
theorem dX4_verdict_17 : decode cX4_verdict 17 = .ok (.ldc2_w 89, 3) := by decide +kernel
theorem dX4_verdict_20 : decode cX4_verdict 20 = .ok (.aload_n 0, 1) := by decide +kernel
theorem dX4_verdict_21 : decode cX4_verdict 21 = .ok (.invokevirtual 91, 3) := by decide +kernel
theorem dX4_verdict_24 : decode cX4_verdict 24 = .ok (.lmul, 1) := by decide +kernel
theorem dX4_verdict_25 : decode cX4_verdict 25 = .ok (.lcmp, 1) := by decide +kernel
theorem dX4_verdict_26 : decode cX4_verdict 26 = .ok (.ifCond .gt 23, 3) := by decide +kernel
theorem dX4_verdict_29 : decode cX4_verdict 29 = .ok (.ldc2_w 89, 3) := by decide +kernel
theorem dX4_verdict_32 : decode cX4_verdict 32 = .ok (.aload_n 0, 1) := by decide +kernel
theorem dX4_verdict_33 : decode cX4_verdict 33 = .ok (.invokevirtual 91, 3) := by decide +kernel
theorem dX4_verdict_36 : decode cX4_verdict 36 = .ok (.lmul, 1) := by decide +kernel
theorem dX4_verdict_37 : decode cX4_verdict 37 = .ok (.ldc2_w 94, 3) := by decide +kernel
theorem dX4_verdict_40 : decode cX4_verdict 40 = .ok (.aload_n 0, 1) := by decide +kernel
theorem dX4_verdict_41 : decode cX4_verdict 41 = .ok (.invokevirtual 83, 3) := by decide +kernel
theorem dX4_verdict_44 : decode cX4_verdict 44 = .ok (.lmul, 1) := by decide +kernel
theorem dX4_verdict_45 : decode cX4_verdict 45 = .ok (.lcmp, 1) := by decide +kernel
theorem dX4_verdict_46 : decode cX4_verdict 46 = .ok (.ifCond .le 5, 3) := by decide +kernel
theorem dX4_verdict_49 : decode cX4_verdict 49 = .ok (.iconst 1, 1) := by decide +kernel
theorem dX4_verdict_50 : decode cX4_verdict 50 = .ok (.ireturn, 1) := by decide +kernel
theorem dX4_verdict_51 : decode cX4_verdict 51 = .ok (.aload_n 0, 1) := by decide +kernel
theorem dX4_verdict_52 : decode cX4_verdict 52 = .ok (.getfield 15, 3) := by decide +kernel
theorem dX4_verdict_55 : decode cX4_verdict 55 = .ok (.invokestatic 76, 3) := by decide +kernel
theorem dX4_verdict_58 : decode cX4_verdict 58 = .ok (.ldc2_w 96, 3) := by decide +kernel
theorem dX4_verdict_61 : decode cX4_verdict 61 = .ok (.aload_n 0, 1) := by decide +kernel
theorem dX4_verdict_62 : decode cX4_verdict 62 = .ok (.getfield 9, 3) := by decide +kernel
theorem dX4_verdict_65 : decode cX4_verdict 65 = .ok (.lmul, 1) := by decide +kernel
theorem dX4_verdict_66 : decode cX4_verdict 66 = .ok (.lcmp, 1) := by decide +kernel
theorem dX4_verdict_67 : decode cX4_verdict 67 = .ok (.ifCond .le 5, 3) := by decide +kernel
theorem dX4_verdict_70 : decode cX4_verdict 70 = .ok (.iconst 2, 1) := by decide +kernel
theorem dX4_verdict_71 : decode cX4_verdict 71 = .ok (.ireturn, 1) := by decide +kernel
theorem dX4_verdict_72 : decode cX4_verdict 72 = .ok (.aload_n 0, 1) := by decide +kernel
theorem dX4_verdict_73 : decode cX4_verdict 73 = .ok (.getfield 18, 3) := by decide +kernel
theorem dX4_verdict_76 : decode cX4_verdict 76 = .ok (.ldc2_w 98, 3) := by decide +kernel
theorem dX4_verdict_79 : decode cX4_verdict 79 = .ok (.lcmp, 1) := by decide +kernel
theorem dX4_verdict_80 : decode cX4_verdict 80 = .ok (.ifCond .le 7, 3) := by decide +kernel
theorem dX4_verdict_83 : decode cX4_verdict 83 = .ok (.iconst 3, 1) := by decide +kernel
theorem dX4_verdict_84 : decode cX4_verdict 84 = .ok (.goto 4, 3) := by decide +kernel
theorem dX4_verdict_87 : decode cX4_verdict 87 = .ok (.iconst 0, 1) := by decide +kernel
theorem dX4_verdict_88 : decode cX4_verdict 88 = .ok (.ireturn, 1) := by decide +kernel
theorem dX5_init_0 : decode cX5_init 0 = .ok (.aload_n 0, 1) := by decide +kernel
theorem dX5_init_1 : decode cX5_init 1 = .ok (.invokespecial 3, 3) := by decide +kernel
theorem dX5_init_4 : decode cX5_init 4 = .ok (.aload_n 0, 1) := by decide +kernel
theorem dX5_init_5 : decode cX5_init 5 = .ok (.bipush 20, 2) := by decide +kernel
theorem dX5_init_7 : decode cX5_init 7 = .ok (.newarray .int, 2) := by decide +kernel
theorem dX5_init_9 : decode cX5_init 9 = .ok (.putfield 9, 3) := by decide +kernel
theorem dX5_init_12 : decode cX5_init 12 = .ok (.aload_n 0, 1) := by decide +kernel
theorem dX5_init_13 : decode cX5_init 13 = .ok (.iconst 0, 1) := by decide +kernel
theorem dX5_init_14 : decode cX5_init 14 = .ok (.putfield 15, 3) := by decide +kernel
theorem dX5_init_17 : decode cX5_init 17 = .ok (.return_, 1) := by decide +kernel
theorem dX5_add_0 : decode cX5_add 0 = .ok (.aload_n 0, 1) := by decide +kernel
theorem dX5_add_1 : decode cX5_add 1 = .ok (.getfield 15, 3) := by decide +kernel
theorem dX5_add_4 : decode cX5_add 4 = .ok (.iconst 0, 1) := by decide +kernel
theorem dX5_add_5 : decode cX5_add 5 = .ok (.bipush 19, 2) := by decide +kernel
theorem dX5_add_7 : decode cX5_add 7 = .ok (.invokestatic 19, 3) := by decide +kernel
theorem dX5_add_10 : decode cX5_add 10 = .ok (.ifCond .eq 23, 3) := by decide +kernel
theorem dX5_add_13 : decode cX5_add 13 = .ok (.aload_n 0, 1) := by decide +kernel
theorem dX5_add_14 : decode cX5_add 14 = .ok (.getfield 9, 3) := by decide +kernel
theorem dX5_add_17 : decode cX5_add 17 = .ok (.aload_n 0, 1) := by decide +kernel
theorem dX5_add_18 : decode cX5_add 18 = .ok (.getfield 15, 3) := by decide +kernel
theorem dX5_add_21 : decode cX5_add 21 = .ok (.iload_n 1, 1) := by decide +kernel
theorem dX5_add_22 : decode cX5_add 22 = .ok (.iastore, 1) := by decide +kernel
theorem dX5_add_23 : decode cX5_add 23 = .ok (.aload_n 0, 1) := by decide +kernel
theorem dX5_add_24 : decode cX5_add 24 = .ok (.dup, 1) := by decide +kernel
theorem dX5_add_25 : decode cX5_add 25 = .ok (.getfield 15, 3) := by decide +kernel
theorem dX5_add_28 : decode cX5_add 28 = .ok (.iconst 1, 1) := by decide +kernel
theorem dX5_add_29 : decode cX5_add 29 = .ok (.iadd, 1) := by decide +kernel
theorem dX5_add_30 : decode cX5_add 30 = .ok (.putfield 15, 3) := by decide +kernel
theorem dX5_add_33 : decode cX5_add 33 = .ok (.return_, 1) := by decide +kernel
theorem dX5_has_0 : decode cX5_has 0 = .ok (.iload_n 1, 1) := by decide +kernel
theorem dX5_has_1 : decode cX5_has 1 = .ok (.iconst 0, 1) := by decide +kernel
theorem dX5_has_2 : decode cX5_has 2 = .ok (.aload_n 0, 1) := by decide +kernel
theorem dX5_has_3 : decode cX5_has 3 = .ok (.getfield 15, 3) := by decide +kernel
theorem dX5_has_6 : decode cX5_has 6 = .ok (.iconst 1, 1) := by decide +kernel
theorem dX5_has_7 : decode cX5_has 7 = .ok (.isub, 1) := by decide +kernel
theorem dX5_has_8 : decode cX5_has 8 = .ok (.invokestatic 19, 3) := by decide +kernel
theorem dX5_has_11 : decode cX5_has 11 = .ok (.ireturn, 1) := by decide +kernel
theorem dX5_first_0 : decode cX5_first 0 = .ok (.iload_n 1, 1) := by decide +kernel
theorem dX5_first_1 : decode cX5_first 1 = .ok (.iconst 0, 1) := by decide +kernel
theorem dX5_first_2 : decode cX5_first 2 = .ok (.bipush 19, 2) := by decide +kernel
theorem dX5_first_4 : decode cX5_first 4 = .ok (.invokestatic 19, 3) := by decide +kernel
theorem dX5_first_7 : decode cX5_first 7 = .ok (.ifCond .eq 12, 3) := by decide +kernel
theorem dX5_first_10 : decode cX5_first 10 = .ok (.aload_n 0, 1) := by decide +kernel
theorem dX5_first_11 : decode cX5_first 11 = .ok (.getfield 9, 3) := by decide +kernel
theorem dX5_first_14 : decode cX5_first 14 = .ok (.iload_n 1, 1) := by decide +kernel
theorem dX5_first_15 : decode cX5_first 15 = .ok (.iaload, 1) := by decide +kernel
theorem dX5_first_16 : decode cX5_first 16 = .ok (.goto 4, 3) := by decide +kernel
theorem dX5_first_19 : decode cX5_first 19 = .ok (.iconst 0, 1) := by decide +kernel
theorem dX5_first_20 : decode cX5_first 20 = .ok (.ireturn, 1) := by decide +kernel
theorem dX5_last_0 : decode cX5_last 0 = .ok (.aload_n 0, 1) := by decide +kernel
theorem dX5_last_1 : decode cX5_last 1 = .ok (.iload_n 1, 1) := by decide +kernel
theorem dX5_last_2 : decode cX5_last 2 = .ok (.iconst 1, 1) := by decide +kernel
theorem dX5_last_3 : decode cX5_last 3 = .ok (.iadd, 1) := by decide +kernel
theorem dX5_last_4 : decode cX5_last 4 = .ok (.invokevirtual 23, 3) := by decide +kernel
theorem dX5_last_7 : decode cX5_last 7 = .ok (.ifCond .eq 15, 3) := by decide +kernel
theorem dX5_last_10 : decode cX5_last 10 = .ok (.aload_n 0, 1) := by decide +kernel
theorem dX5_last_11 : decode cX5_last 11 = .ok (.iload_n 1, 1) := by decide +kernel
theorem dX5_last_12 : decode cX5_last 12 = .ok (.iconst 1, 1) := by decide +kernel
theorem dX5_last_13 : decode cX5_last 13 = .ok (.iadd, 1) := by decide +kernel
theorem dX5_last_14 : decode cX5_last 14 = .ok (.invokevirtual 27, 3) := by decide +kernel
theorem dX5_last_17 : decode cX5_last 17 = .ok (.iconst 1, 1) := by decide +kernel
theorem dX5_last_18 : decode cX5_last 18 = .ok (.isub, 1) := by decide +kernel
theorem dX5_last_19 : decode cX5_last 19 = .ok (.goto 4, 3) := by decide +kernel
theorem dX5_last_22 : decode cX5_last 22 = .ok (.iload_n 2, 1) := by decide +kernel
theorem dX5_last_23 : decode cX5_last 23 = .ok (.ireturn, 1) := by decide +kernel
theorem dX6_init_0 : decode cX6_init 0 = .ok (.aload_n 0, 1) := by decide +kernel
theorem dX6_init_1 : decode cX6_init 1 = .ok (.invokespecial 3, 3) := by decide +kernel
theorem dX6_init_4 : decode cX6_init 4 = .ok (.aload_n 0, 1) := by decide +kernel
theorem dX6_init_5 : decode cX6_init 5 = .ok (.bipush 120, 2) := by decide +kernel
theorem dX6_init_7 : decode cX6_init 7 = .ok (.newarray .int, 2) := by decide +kernel
theorem dX6_init_9 : decode cX6_init 9 = .ok (.putfield 9, 3) := by decide +kernel
theorem dX6_init_12 : decode cX6_init 12 = .ok (.aload_n 0, 1) := by decide +kernel
theorem dX6_init_13 : decode cX6_init 13 = .ok (.iconst 0, 1) := by decide +kernel
theorem dX6_init_14 : decode cX6_init 14 = .ok (.putfield 15, 3) := by decide +kernel
theorem dX6_init_17 : decode cX6_init 17 = .ok (.return_, 1) := by decide +kernel
theorem dX6_fits_0 : decode cX6_fits 0 = .ok (.iload_n 1, 1) := by decide +kernel
theorem dX6_fits_1 : decode cX6_fits 1 = .ok (.tableswitch 115 0 3 #[31, 40, 80, 90], 31) := by decide +kernel
theorem dX6_fits_32 : decode cX6_fits 32 = .ok (.iload_n 2, 1) := by decide +kernel
theorem dX6_fits_33 : decode cX6_fits 33 = .ok (.iconst 1, 1) := by decide +kernel
theorem dX6_fits_34 : decode cX6_fits 34 = .ok (.sipush 500, 3) := by decide +kernel
theorem dX6_fits_37 : decode cX6_fits 37 = .ok (.invokestatic 19, 3) := by decide +kernel
theorem dX6_fits_40 : decode cX6_fits 40 = .ok (.ireturn, 1) := by decide +kernel
theorem dX6_fits_41 : decode cX6_fits 41 = .ok (.iload_n 2, 1) := by decide +kernel
theorem dX6_fits_42 : decode cX6_fits 42 = .ok (.iconst 1, 1) := by decide +kernel
theorem dX6_fits_43 : decode cX6_fits 43 = .ok (.sipush 500, 3) := by decide +kernel
theorem dX6_fits_46 : decode cX6_fits 46 = .ok (.invokestatic 19, 3) := by decide +kernel
theorem dX6_fits_49 : decode cX6_fits 49 = .ok (.ifCond .eq 30, 3) := by decide +kernel
theorem dX6_fits_52 : decode cX6_fits 52 = .ok (.iload_n 3, 1) := by decide +kernel
theorem dX6_fits_53 : decode cX6_fits 53 = .ok (.iconst 0, 1) := by decide +kernel
theorem dX6_fits_54 : decode cX6_fits 54 = .ok (.sipush 8000, 3) := by decide +kernel
theorem dX6_fits_57 : decode cX6_fits 57 = .ok (.invokestatic 19, 3) := by decide +kernel
theorem dX6_fits_60 : decode cX6_fits 60 = .ok (.ifCond .eq 19, 3) := by decide +kernel
theorem dX6_fits_63 : decode cX6_fits 63 = .ok (.iload 4, 2) := by decide +kernel
theorem dX6_fits_65 : decode cX6_fits 65 = .ok (.iconst 0, 1) := by decide +kernel
theorem dX6_fits_66 : decode cX6_fits 66 = .ok (.sipush 1000, 3) := by decide +kernel
theorem dX6_fits_69 : decode cX6_fits 69 = .ok (.invokestatic 19, 3) := by decide +kernel
theorem dX6_fits_72 : decode cX6_fits 72 = .ok (.ifCond .eq 7, 3) := by decide +kernel
theorem dX6_fits_75 : decode cX6_fits 75 = .ok (.iconst 1, 1) := by decide +kernel
theorem dX6_fits_76 : decode cX6_fits 76 = .ok (.goto 4, 3) := by decide +kernel
theorem dX6_fits_79 : decode cX6_fits 79 = .ok (.iconst 0, 1) := by decide +kernel
theorem dX6_fits_80 : decode cX6_fits 80 = .ok (.ireturn, 1) := by decide +kernel
theorem dX6_fits_81 : decode cX6_fits 81 = .ok (.iload 4, 2) := by decide +kernel
theorem dX6_fits_83 : decode cX6_fits 83 = .ok (.iconst 1, 1) := by decide +kernel
theorem dX6_fits_84 : decode cX6_fits 84 = .ok (.sipush 500, 3) := by decide +kernel
theorem dX6_fits_87 : decode cX6_fits 87 = .ok (.invokestatic 19, 3) := by decide +kernel
theorem dX6_fits_90 : decode cX6_fits 90 = .ok (.ireturn, 1) := by decide +kernel
theorem dX6_fits_91 : decode cX6_fits 91 = .ok (.iload_n 2, 1) := by decide +kernel
theorem dX6_fits_92 : decode cX6_fits 92 = .ok (.iconst 0, 1) := by decide +kernel
theorem dX6_fits_93 : decode cX6_fits 93 = .ok (.iload_n 0, 1) := by decide +kernel
theorem dX6_fits_94 : decode cX6_fits 94 = .ok (.invokestatic 19, 3) := by decide +kernel
theorem dX6_fits_97 : decode cX6_fits 97 = .ok (.ifCond .eq 17, 3) := by decide +kernel
theorem dX6_fits_100 : decode cX6_fits 100 = .ok (.iload_n 3, 1) := by decide +kernel
theorem dX6_fits_101 : decode cX6_fits 101 = .ok (.iconst 1, 1) := by decide +kernel
theorem dX6_fits_102 : decode cX6_fits 102 = .ok (.bipush 100, 2) := by decide +kernel
theorem dX6_fits_104 : decode cX6_fits 104 = .ok (.invokestatic 19, 3) := by decide +kernel
theorem dX6_fits_107 : decode cX6_fits 107 = .ok (.ifCond .eq 7, 3) := by decide +kernel
theorem dX6_fits_110 : decode cX6_fits 110 = .ok (.iconst 1, 1) := by decide +kernel
theorem dX6_fits_111 : decode cX6_fits 111 = .ok (.goto 4, 3) := by decide +kernel
theorem dX6_fits_114 : decode cX6_fits 114 = .ok (.iconst 0, 1) := by decide +kernel
theorem dX6_fits_115 : decode cX6_fits 115 = .ok (.ireturn, 1) := by decide +kernel
theorem dX6_fits_116 : decode cX6_fits 116 = .ok (.iload_n 1, 1) := by decide +kernel
theorem dX6_fits_117 : decode cX6_fits 117 = .ok (.iconst 4, 1) := by decide +kernel
theorem dX6_fits_118 : decode cX6_fits 118 = .ok (.if_icmp .ne 7, 3) := by decide +kernel
theorem dX6_fits_121 : decode cX6_fits 121 = .ok (.iconst 1, 1) := by decide +kernel
theorem dX6_fits_122 : decode cX6_fits 122 = .ok (.goto 4, 3) := by decide +kernel
theorem dX6_fits_125 : decode cX6_fits 125 = .ok (.iconst 0, 1) := by decide +kernel
theorem dX6_fits_126 : decode cX6_fits 126 = .ok (.ireturn, 1) := by decide +kernel
theorem dX6_has_0 : decode cX6_has 0 = .ok (.iload_n 1, 1) := by decide +kernel
theorem dX6_has_1 : decode cX6_has 1 = .ok (.iconst 0, 1) := by decide +kernel
theorem dX6_has_2 : decode cX6_has 2 = .ok (.aload_n 0, 1) := by decide +kernel
theorem dX6_has_3 : decode cX6_has 3 = .ok (.getfield 15, 3) := by decide +kernel
theorem dX6_has_6 : decode cX6_has 6 = .ok (.iconst 1, 1) := by decide +kernel
theorem dX6_has_7 : decode cX6_has 7 = .ok (.isub, 1) := by decide +kernel
theorem dX6_has_8 : decode cX6_has 8 = .ok (.invokestatic 19, 3) := by decide +kernel
theorem dX6_has_11 : decode cX6_has 11 = .ok (.ireturn, 1) := by decide +kernel
theorem dX6_cell_0 : decode cX6_cell 0 = .ok (.iload_n 1, 1) := by decide +kernel
theorem dX6_cell_1 : decode cX6_cell 1 = .ok (.iconst 0, 1) := by decide +kernel
theorem dX6_cell_2 : decode cX6_cell 2 = .ok (.bipush 29, 2) := by decide +kernel
theorem dX6_cell_4 : decode cX6_cell 4 = .ok (.invokestatic 19, 3) := by decide +kernel
theorem dX6_cell_7 : decode cX6_cell 7 = .ok (.ifCond .eq 12, 3) := by decide +kernel
theorem dX6_cell_10 : decode cX6_cell 10 = .ok (.iload_n 2, 1) := by decide +kernel
theorem dX6_cell_11 : decode cX6_cell 11 = .ok (.iconst 0, 1) := by decide +kernel
theorem dX6_cell_12 : decode cX6_cell 12 = .ok (.iconst 3, 1) := by decide +kernel
theorem dX6_cell_13 : decode cX6_cell 13 = .ok (.invokestatic 19, 3) := by decide +kernel
theorem dX6_cell_16 : decode cX6_cell 16 = .ok (.ifCond .ne 5, 3) := by decide +kernel
theorem dX6_cell_19 : decode cX6_cell 19 = .ok (.iconst 0, 1) := by decide +kernel
theorem dX6_cell_20 : decode cX6_cell 20 = .ok (.ireturn, 1) := by decide +kernel
theorem dX6_cell_21 : decode cX6_cell 21 = .ok (.aload_n 0, 1) := by decide +kernel
theorem dX6_cell_22 : decode cX6_cell 22 = .ok (.getfield 9, 3) := by decide +kernel
theorem dX6_cell_25 : decode cX6_cell 25 = .ok (.iload_n 1, 1) := by decide +kernel
theorem dX6_cell_26 : decode cX6_cell 26 = .ok (.iconst 4, 1) := by decide +kernel
theorem dX6_cell_27 : decode cX6_cell 27 = .ok (.imul, 1) := by decide +kernel
theorem dX6_cell_28 : decode cX6_cell 28 = .ok (.iload_n 2, 1) := by decide +kernel
theorem dX6_cell_29 : decode cX6_cell 29 = .ok (.iadd, 1) := by decide +kernel
theorem dX6_cell_30 : decode cX6_cell 30 = .ok (.iaload, 1) := by decide +kernel
theorem dX6_cell_31 : decode cX6_cell 31 = .ok (.ireturn, 1) := by decide +kernel
theorem dX6_add_0 : decode cX6_add 0 = .ok (.aload_n 0, 1) := by decide +kernel
theorem dX6_add_1 : decode cX6_add 1 = .ok (.getfield 15, 3) := by decide +kernel
theorem dX6_add_4 : decode cX6_add 4 = .ok (.iconst 0, 1) := by decide +kernel
theorem dX6_add_5 : decode cX6_add 5 = .ok (.bipush 29, 2) := by decide +kernel
theorem dX6_add_7 : decode cX6_add 7 = .ok (.invokestatic 19, 3) := by decide +kernel
theorem dX6_add_10 : decode cX6_add 10 = .ok (.ifCond .ne 4, 3) := by decide +kernel
theorem dX6_add_13 : decode cX6_add 13 = .ok (.return_, 1) := by decide +kernel
theorem dX6_add_14 : decode cX6_add 14 = .ok (.aload_n 0, 1) := by decide +kernel
theorem dX6_add_15 : decode cX6_add 15 = .ok (.getfield 15, 3) := by decide +kernel
theorem dX6_add_18 : decode cX6_add 18 = .ok (.iconst 4, 1) := by decide +kernel
theorem dX6_add_19 : decode cX6_add 19 = .ok (.imul, 1) := by decide +kernel
theorem dX6_add_20 : decode cX6_add 20 = .ok (.istore 5, 2) := by decide +kernel
theorem dX6_add_22 : decode cX6_add 22 = .ok (.aload_n 0, 1) := by decide +kernel
theorem dX6_add_23 : decode cX6_add 23 = .ok (.getfield 9, 3) := by decide +kernel
theorem dX6_add_26 : decode cX6_add 26 = .ok (.iload 5, 2) := by decide +kernel
theorem dX6_add_28 : decode cX6_add 28 = .ok (.iconst 0, 1) := by decide +kernel
theorem dX6_add_29 : decode cX6_add 29 = .ok (.iadd, 1) := by decide +kernel
theorem dX6_add_30 : decode cX6_add 30 = .ok (.iload_n 1, 1) := by decide +kernel
theorem dX6_add_31 : decode cX6_add 31 = .ok (.iastore, 1) := by decide +kernel
theorem dX6_add_32 : decode cX6_add 32 = .ok (.aload_n 0, 1) := by decide +kernel
theorem dX6_add_33 : decode cX6_add 33 = .ok (.getfield 9, 3) := by decide +kernel
theorem dX6_add_36 : decode cX6_add 36 = .ok (.iload 5, 2) := by decide +kernel
theorem dX6_add_38 : decode cX6_add 38 = .ok (.iconst 1, 1) := by decide +kernel
theorem dX6_add_39 : decode cX6_add 39 = .ok (.iadd, 1) := by decide +kernel
theorem dX6_add_40 : decode cX6_add 40 = .ok (.iload_n 2, 1) := by decide +kernel
theorem dX6_add_41 : decode cX6_add 41 = .ok (.iastore, 1) := by decide +kernel
theorem dX6_add_42 : decode cX6_add 42 = .ok (.aload_n 0, 1) := by decide +kernel
theorem dX6_add_43 : decode cX6_add 43 = .ok (.getfield 9, 3) := by decide +kernel
theorem dX6_add_46 : decode cX6_add 46 = .ok (.iload 5, 2) := by decide +kernel
theorem dX6_add_48 : decode cX6_add 48 = .ok (.iconst 2, 1) := by decide +kernel
theorem dX6_add_49 : decode cX6_add 49 = .ok (.iadd, 1) := by decide +kernel
theorem dX6_add_50 : decode cX6_add 50 = .ok (.iload_n 3, 1) := by decide +kernel
theorem dX6_add_51 : decode cX6_add 51 = .ok (.iastore, 1) := by decide +kernel
theorem dX6_add_52 : decode cX6_add 52 = .ok (.aload_n 0, 1) := by decide +kernel
theorem dX6_add_53 : decode cX6_add 53 = .ok (.getfield 9, 3) := by decide +kernel
theorem dX6_add_56 : decode cX6_add 56 = .ok (.iload 5, 2) := by decide +kernel
theorem dX6_add_58 : decode cX6_add 58 = .ok (.iconst 3, 1) := by decide +kernel
theorem dX6_add_59 : decode cX6_add 59 = .ok (.iadd, 1) := by decide +kernel
theorem dX6_add_60 : decode cX6_add 60 = .ok (.iload 4, 2) := by decide +kernel
theorem dX6_add_62 : decode cX6_add 62 = .ok (.iastore, 1) := by decide +kernel
theorem dX6_add_63 : decode cX6_add 63 = .ok (.aload_n 0, 1) := by decide +kernel
theorem dX6_add_64 : decode cX6_add 64 = .ok (.dup, 1) := by decide +kernel
theorem dX6_add_65 : decode cX6_add 65 = .ok (.getfield 15, 3) := by decide +kernel
theorem dX6_add_68 : decode cX6_add 68 = .ok (.iconst 1, 1) := by decide +kernel
theorem dX6_add_69 : decode cX6_add 69 = .ok (.iadd, 1) := by decide +kernel
theorem dX6_add_70 : decode cX6_add 70 = .ok (.putfield 15, 3) := by decide +kernel
theorem dX6_add_73 : decode cX6_add 73 = .ok (.return_, 1) := by decide +kernel
theorem dX6_fitAll_0 : decode cX6_fitAll 0 = .ok (.iconst 0, 1) := by decide +kernel
theorem dX6_fitAll_1 : decode cX6_fitAll 1 = .ok (.istore 4, 2) := by decide +kernel
theorem dX6_fitAll_3 : decode cX6_fitAll 3 = .ok (.iload 4, 2) := by decide +kernel
theorem dX6_fitAll_5 : decode cX6_fitAll 5 = .ok (.iload_n 3, 1) := by decide +kernel
theorem dX6_fitAll_6 : decode cX6_fitAll 6 = .ok (.if_icmp .ge 64, 3) := by decide +kernel
theorem dX6_fitAll_9 : decode cX6_fitAll 9 = .ok (.iload_n 2, 1) := by decide +kernel
theorem dX6_fitAll_10 : decode cX6_fitAll 10 = .ok (.iconst 4, 1) := by decide +kernel
theorem dX6_fitAll_11 : decode cX6_fitAll 11 = .ok (.iload 4, 2) := by decide +kernel
theorem dX6_fitAll_13 : decode cX6_fitAll 13 = .ok (.imul, 1) := by decide +kernel
theorem dX6_fitAll_14 : decode cX6_fitAll 14 = .ok (.iadd, 1) := by decide +kernel
theorem dX6_fitAll_15 : decode cX6_fitAll 15 = .ok (.istore 5, 2) := by decide +kernel
theorem dX6_fitAll_17 : decode cX6_fitAll 17 = .ok (.aload_n 0, 1) := by decide +kernel
theorem dX6_fitAll_18 : decode cX6_fitAll 18 = .ok (.getfield 15, 3) := by decide +kernel
theorem dX6_fitAll_21 : decode cX6_fitAll 21 = .ok (.iload 4, 2) := by decide +kernel
theorem dX6_fitAll_23 : decode cX6_fitAll 23 = .ok (.iadd, 1) := by decide +kernel
theorem dX6_fitAll_24 : decode cX6_fitAll 24 = .ok (.aload_n 1, 1) := by decide +kernel
theorem dX6_fitAll_25 : decode cX6_fitAll 25 = .ok (.iload 5, 2) := by decide +kernel
theorem dX6_fitAll_27 : decode cX6_fitAll 27 = .ok (.iconst 0, 1) := by decide +kernel
theorem dX6_fitAll_28 : decode cX6_fitAll 28 = .ok (.iadd, 1) := by decide +kernel
theorem dX6_fitAll_29 : decode cX6_fitAll 29 = .ok (.invokevirtual 23, 3) := by decide +kernel
theorem dX6_fitAll_32 : decode cX6_fitAll 32 = .ok (.aload_n 1, 1) := by decide +kernel
theorem dX6_fitAll_33 : decode cX6_fitAll 33 = .ok (.iload 5, 2) := by decide +kernel
theorem dX6_fitAll_35 : decode cX6_fitAll 35 = .ok (.iconst 1, 1) := by decide +kernel
theorem dX6_fitAll_36 : decode cX6_fitAll 36 = .ok (.iadd, 1) := by decide +kernel
theorem dX6_fitAll_37 : decode cX6_fitAll 37 = .ok (.invokevirtual 23, 3) := by decide +kernel
theorem dX6_fitAll_40 : decode cX6_fitAll 40 = .ok (.aload_n 1, 1) := by decide +kernel
theorem dX6_fitAll_41 : decode cX6_fitAll 41 = .ok (.iload 5, 2) := by decide +kernel
theorem dX6_fitAll_43 : decode cX6_fitAll 43 = .ok (.iconst 2, 1) := by decide +kernel
theorem dX6_fitAll_44 : decode cX6_fitAll 44 = .ok (.iadd, 1) := by decide +kernel
theorem dX6_fitAll_45 : decode cX6_fitAll 45 = .ok (.invokevirtual 23, 3) := by decide +kernel
theorem dX6_fitAll_48 : decode cX6_fitAll 48 = .ok (.aload_n 1, 1) := by decide +kernel
theorem dX6_fitAll_49 : decode cX6_fitAll 49 = .ok (.iload 5, 2) := by decide +kernel
theorem dX6_fitAll_51 : decode cX6_fitAll 51 = .ok (.iconst 3, 1) := by decide +kernel
theorem dX6_fitAll_52 : decode cX6_fitAll 52 = .ok (.iadd, 1) := by decide +kernel
theorem dX6_fitAll_53 : decode cX6_fitAll 53 = .ok (.invokevirtual 23, 3) := by decide +kernel
theorem dX6_fitAll_56 : decode cX6_fitAll 56 = .ok (.invokestatic 29, 3) := by decide +kernel
theorem dX6_fitAll_59 : decode cX6_fitAll 59 = .ok (.ifCond .ne 5, 3) := by decide +kernel
theorem dX6_fitAll_62 : decode cX6_fitAll 62 = .ok (.iconst 0, 1) := by decide +kernel
theorem dX6_fitAll_63 : decode cX6_fitAll 63 = .ok (.ireturn, 1) := by decide +kernel
theorem dX6_fitAll_64 : decode cX6_fitAll 64 = .ok (.iinc 4 1, 3) := by decide +kernel
theorem dX6_fitAll_67 : decode cX6_fitAll 67 = .ok (.goto (-64), 3) := by decide +kernel
theorem dX6_fitAll_70 : decode cX6_fitAll 70 = .ok (.iconst 1, 1) := by decide +kernel
theorem dX6_fitAll_71 : decode cX6_fitAll 71 = .ok (.ireturn, 1) := by decide +kernel
theorem dX6_addAll_0 : decode cX6_addAll 0 = .ok (.iconst 0, 1) := by decide +kernel
theorem dX6_addAll_1 : decode cX6_addAll 1 = .ok (.istore 4, 2) := by decide +kernel
theorem dX6_addAll_3 : decode cX6_addAll 3 = .ok (.iload 4, 2) := by decide +kernel
theorem dX6_addAll_5 : decode cX6_addAll 5 = .ok (.iload_n 3, 1) := by decide +kernel
theorem dX6_addAll_6 : decode cX6_addAll 6 = .ok (.if_icmp .ge 53, 3) := by decide +kernel
theorem dX6_addAll_9 : decode cX6_addAll 9 = .ok (.iload_n 2, 1) := by decide +kernel
theorem dX6_addAll_10 : decode cX6_addAll 10 = .ok (.iconst 4, 1) := by decide +kernel
theorem dX6_addAll_11 : decode cX6_addAll 11 = .ok (.iload 4, 2) := by decide +kernel
theorem dX6_addAll_13 : decode cX6_addAll 13 = .ok (.imul, 1) := by decide +kernel
theorem dX6_addAll_14 : decode cX6_addAll 14 = .ok (.iadd, 1) := by decide +kernel
theorem dX6_addAll_15 : decode cX6_addAll 15 = .ok (.istore 5, 2) := by decide +kernel
theorem dX6_addAll_17 : decode cX6_addAll 17 = .ok (.aload_n 0, 1) := by decide +kernel
theorem dX6_addAll_18 : decode cX6_addAll 18 = .ok (.aload_n 1, 1) := by decide +kernel
theorem dX6_addAll_19 : decode cX6_addAll 19 = .ok (.iload 5, 2) := by decide +kernel
theorem dX6_addAll_21 : decode cX6_addAll 21 = .ok (.iconst 0, 1) := by decide +kernel
theorem dX6_addAll_22 : decode cX6_addAll 22 = .ok (.iadd, 1) := by decide +kernel
theorem dX6_addAll_23 : decode cX6_addAll 23 = .ok (.invokevirtual 23, 3) := by decide +kernel
theorem dX6_addAll_26 : decode cX6_addAll 26 = .ok (.aload_n 1, 1) := by decide +kernel
theorem dX6_addAll_27 : decode cX6_addAll 27 = .ok (.iload 5, 2) := by decide +kernel
theorem dX6_addAll_29 : decode cX6_addAll 29 = .ok (.iconst 1, 1) := by decide +kernel
theorem dX6_addAll_30 : decode cX6_addAll 30 = .ok (.iadd, 1) := by decide +kernel
theorem dX6_addAll_31 : decode cX6_addAll 31 = .ok (.invokevirtual 23, 3) := by decide +kernel
theorem dX6_addAll_34 : decode cX6_addAll 34 = .ok (.aload_n 1, 1) := by decide +kernel
theorem dX6_addAll_35 : decode cX6_addAll 35 = .ok (.iload 5, 2) := by decide +kernel
theorem dX6_addAll_37 : decode cX6_addAll 37 = .ok (.iconst 2, 1) := by decide +kernel
theorem dX6_addAll_38 : decode cX6_addAll 38 = .ok (.iadd, 1) := by decide +kernel
theorem dX6_addAll_39 : decode cX6_addAll 39 = .ok (.invokevirtual 23, 3) := by decide +kernel
theorem dX6_addAll_42 : decode cX6_addAll 42 = .ok (.aload_n 1, 1) := by decide +kernel
theorem dX6_addAll_43 : decode cX6_addAll 43 = .ok (.iload 5, 2) := by decide +kernel
theorem dX6_addAll_45 : decode cX6_addAll 45 = .ok (.iconst 3, 1) := by decide +kernel
theorem dX6_addAll_46 : decode cX6_addAll 46 = .ok (.iadd, 1) := by decide +kernel
theorem dX6_addAll_47 : decode cX6_addAll 47 = .ok (.invokevirtual 23, 3) := by decide +kernel
theorem dX6_addAll_50 : decode cX6_addAll 50 = .ok (.invokevirtual 33, 3) := by decide +kernel
theorem dX6_addAll_53 : decode cX6_addAll 53 = .ok (.iinc 4 1, 3) := by decide +kernel
theorem dX6_addAll_56 : decode cX6_addAll 56 = .ok (.goto (-53), 3) := by decide +kernel
theorem dX6_addAll_59 : decode cX6_addAll 59 = .ok (.return_, 1) := by decide +kernel
theorem dX7_init_0 : decode cX7_init 0 = .ok (.aload_n 0, 1) := by decide +kernel
theorem dX7_init_1 : decode cX7_init 1 = .ok (.invokespecial 3, 3) := by decide +kernel
theorem dX7_init_4 : decode cX7_init 4 = .ok (.aload_n 0, 1) := by decide +kernel
theorem dX7_init_5 : decode cX7_init 5 = .ok (.bipush 8, 2) := by decide +kernel
theorem dX7_init_7 : decode cX7_init 7 = .ok (.newarray .long, 2) := by decide +kernel
theorem dX7_init_9 : decode cX7_init 9 = .ok (.putfield 9, 3) := by decide +kernel
theorem dX7_init_12 : decode cX7_init 12 = .ok (.aload_n 0, 1) := by decide +kernel
theorem dX7_init_13 : decode cX7_init 13 = .ok (.sipush 160, 3) := by decide +kernel
theorem dX7_init_16 : decode cX7_init 16 = .ok (.newarray .long, 2) := by decide +kernel
theorem dX7_init_18 : decode cX7_init 18 = .ok (.putfield 15, 3) := by decide +kernel
theorem dX7_init_21 : decode cX7_init 21 = .ok (.aload_n 0, 1) := by decide +kernel
theorem dX7_init_22 : decode cX7_init 22 = .ok (.sipush 160, 3) := by decide +kernel
theorem dX7_init_25 : decode cX7_init 25 = .ok (.newarray .int, 2) := by decide +kernel
theorem dX7_init_27 : decode cX7_init 27 = .ok (.putfield 18, 3) := by decide +kernel
theorem dX7_init_30 : decode cX7_init 30 = .ok (.aload_n 0, 1) := by decide +kernel
theorem dX7_init_31 : decode cX7_init 31 = .ok (.iconst 0, 1) := by decide +kernel
theorem dX7_init_32 : decode cX7_init 32 = .ok (.putfield 22, 3) := by decide +kernel
theorem dX7_init_35 : decode cX7_init 35 = .ok (.aload_n 0, 1) := by decide +kernel
theorem dX7_init_36 : decode cX7_init 36 = .ok (.aload_n 1, 1) := by decide +kernel
theorem dX7_init_37 : decode cX7_init 37 = .ok (.putfield 26, 3) := by decide +kernel
theorem dX7_init_40 : decode cX7_init 40 = .ok (.aload_n 0, 1) := by decide +kernel
theorem dX7_init_41 : decode cX7_init 41 = .ok (.aload_n 2, 1) := by decide +kernel
theorem dX7_init_42 : decode cX7_init 42 = .ok (.putfield 30, 3) := by decide +kernel
theorem dX7_init_45 : decode cX7_init 45 = .ok (.aload_n 0, 1) := by decide +kernel
theorem dX7_init_46 : decode cX7_init 46 = .ok (.aload_n 3, 1) := by decide +kernel
theorem dX7_init_47 : decode cX7_init 47 = .ok (.putfield 34, 3) := by decide +kernel
theorem dX7_init_50 : decode cX7_init 50 = .ok (.return_, 1) := by decide +kernel
theorem dX7_number_0 : decode cX7_number 0 = .ok (.iload_n 1, 1) := by decide +kernel
theorem dX7_number_1 : decode cX7_number 1 = .ok (.iconst 0, 1) := by decide +kernel
theorem dX7_number_2 : decode cX7_number 2 = .ok (.bipush 7, 2) := by decide +kernel
theorem dX7_number_4 : decode cX7_number 4 = .ok (.invokestatic 38, 3) := by decide +kernel
theorem dX7_number_7 : decode cX7_number 7 = .ok (.ifCond .eq 12, 3) := by decide +kernel
theorem dX7_number_10 : decode cX7_number 10 = .ok (.aload_n 0, 1) := by decide +kernel
theorem dX7_number_11 : decode cX7_number 11 = .ok (.getfield 9, 3) := by decide +kernel
theorem dX7_number_14 : decode cX7_number 14 = .ok (.iload_n 1, 1) := by decide +kernel
theorem dX7_number_15 : decode cX7_number 15 = .ok (.laload, 1) := by decide +kernel
theorem dX7_number_16 : decode cX7_number 16 = .ok (.goto 4, 3) := by decide +kernel
theorem dX7_number_19 : decode cX7_number 19 = .ok (.lconst 0, 1) := by decide +kernel
theorem dX7_number_20 : decode cX7_number 20 = .ok (.lreturn, 1) := by decide +kernel
theorem dX7_otherAt_0 : decode cX7_otherAt 0 = .ok (.iload_n 1, 1) := by decide +kernel
theorem dX7_otherAt_1 : decode cX7_otherAt 1 = .ok (.iconst 0, 1) := by decide +kernel
theorem dX7_otherAt_2 : decode cX7_otherAt 2 = .ok (.sipush 159, 3) := by decide +kernel
theorem dX7_otherAt_5 : decode cX7_otherAt 5 = .ok (.invokestatic 38, 3) := by decide +kernel
theorem dX7_otherAt_8 : decode cX7_otherAt 8 = .ok (.ifCond .eq 12, 3) := by decide +kernel
theorem dX7_otherAt_11 : decode cX7_otherAt 11 = .ok (.aload_n 0, 1) := by decide +kernel
theorem dX7_otherAt_12 : decode cX7_otherAt 12 = .ok (.getfield 18, 3) := by decide +kernel
theorem dX7_otherAt_15 : decode cX7_otherAt 15 = .ok (.iload_n 1, 1) := by decide +kernel
theorem dX7_otherAt_16 : decode cX7_otherAt 16 = .ok (.iaload, 1) := by decide +kernel
theorem dX7_otherAt_17 : decode cX7_otherAt 17 = .ok (.goto 4, 3) := by decide +kernel
theorem dX7_otherAt_20 : decode cX7_otherAt 20 = .ok (.iconst 0, 1) := by decide +kernel
theorem dX7_otherAt_21 : decode cX7_otherAt 21 = .ok (.ireturn, 1) := by decide +kernel
theorem dX7_reckon_0 : decode cX7_reckon 0 = .ok (.iconst 0, 1) := by decide +kernel
theorem dX7_reckon_1 : decode cX7_reckon 1 = .ok (.istore_n 3, 1) := by decide +kernel
theorem dX7_reckon_2 : decode cX7_reckon 2 = .ok (.iload_n 3, 1) := by decide +kernel
theorem dX7_reckon_3 : decode cX7_reckon 3 = .ok (.bipush 8, 2) := by decide +kernel
theorem dX7_reckon_5 : decode cX7_reckon 5 = .ok (.if_icmp .ge 16, 3) := by decide +kernel
theorem dX7_reckon_8 : decode cX7_reckon 8 = .ok (.aload_n 0, 1) := by decide +kernel
theorem dX7_reckon_9 : decode cX7_reckon 9 = .ok (.getfield 9, 3) := by decide +kernel
theorem dX7_reckon_12 : decode cX7_reckon 12 = .ok (.iload_n 3, 1) := by decide +kernel
theorem dX7_reckon_13 : decode cX7_reckon 13 = .ok (.lconst 0, 1) := by decide +kernel
theorem dX7_reckon_14 : decode cX7_reckon 14 = .ok (.lastore, 1) := by decide +kernel
theorem dX7_reckon_15 : decode cX7_reckon 15 = .ok (.iinc 3 1, 3) := by decide +kernel
theorem dX7_reckon_18 : decode cX7_reckon 18 = .ok (.goto (-16), 3) := by decide +kernel
theorem dX7_reckon_21 : decode cX7_reckon 21 = .ok (.aload_n 0, 1) := by decide +kernel
theorem dX7_reckon_22 : decode cX7_reckon 22 = .ok (.getfield 34, 3) := by decide +kernel
theorem dX7_reckon_25 : decode cX7_reckon 25 = .ok (.iload_n 2, 1) := by decide +kernel
theorem dX7_reckon_26 : decode cX7_reckon 26 = .ok (.aload_n 0, 1) := by decide +kernel
theorem dX7_reckon_27 : decode cX7_reckon 27 = .ok (.getfield 26, 3) := by decide +kernel
theorem dX7_reckon_30 : decode cX7_reckon 30 = .ok (.getfield 42, 3) := by decide +kernel
theorem dX7_reckon_33 : decode cX7_reckon 33 = .ok (.invokevirtual 47, 3) := by decide +kernel
theorem dX7_reckon_36 : decode cX7_reckon 36 = .ok (.istore_n 3, 1) := by decide +kernel
theorem dX7_reckon_37 : decode cX7_reckon 37 = .ok (.iconst 0, 1) := by decide +kernel
theorem dX7_reckon_38 : decode cX7_reckon 38 = .ok (.istore 4, 2) := by decide +kernel
theorem dX7_reckon_40 : decode cX7_reckon 40 = .ok (.lconst 0, 1) := by decide +kernel
theorem dX7_reckon_41 : decode cX7_reckon 41 = .ok (.lstore 5, 2) := by decide +kernel
theorem dX7_reckon_43 : decode cX7_reckon 43 = .ok (.aload_n 1, 1) := by decide +kernel
theorem dX7_reckon_44 : decode cX7_reckon 44 = .ok (.aload_n 0, 1) := by decide +kernel
theorem dX7_reckon_45 : decode cX7_reckon 45 = .ok (.getfield 34, 3) := by decide +kernel
theorem dX7_reckon_48 : decode cX7_reckon 48 = .ok (.iload_n 2, 1) := by decide +kernel
theorem dX7_reckon_49 : decode cX7_reckon 49 = .ok (.invokevirtual 53, 3) := by decide +kernel
theorem dX7_reckon_52 : decode cX7_reckon 52 = .ok (.invokevirtual 57, 3) := by decide +kernel
theorem dX7_reckon_55 : decode cX7_reckon 55 = .ok (.istore 7, 2) := by decide +kernel
theorem dX7_reckon_57 : decode cX7_reckon 57 = .ok (.iload 7, 2) := by decide +kernel
theorem dX7_reckon_59 : decode cX7_reckon 59 = .ok (.iload_n 3, 1) := by decide +kernel
theorem dX7_reckon_60 : decode cX7_reckon 60 = .ok (.if_icmp .gt 106, 3) := by decide +kernel
theorem dX7_reckon_63 : decode cX7_reckon 63 = .ok (.aload_n 0, 1) := by decide +kernel
theorem dX7_reckon_64 : decode cX7_reckon 64 = .ok (.getfield 30, 3) := by decide +kernel
theorem dX7_reckon_67 : decode cX7_reckon 67 = .ok (.aload_n 1, 1) := by decide +kernel
theorem dX7_reckon_68 : decode cX7_reckon 68 = .ok (.iload 7, 2) := by decide +kernel
theorem dX7_reckon_70 : decode cX7_reckon 70 = .ok (.invokevirtual 62, 3) := by decide +kernel
theorem dX7_reckon_73 : decode cX7_reckon 73 = .ok (.lstore 8, 2) := by decide +kernel
theorem dX7_reckon_75 : decode cX7_reckon 75 = .ok (.lload 8, 2) := by decide +kernel
theorem dX7_reckon_77 : decode cX7_reckon 77 = .ok (.ldc2_w 68, 3) := by decide +kernel
theorem dX7_reckon_80 : decode cX7_reckon 80 = .ok (.lcmp, 1) := by decide +kernel
theorem dX7_reckon_81 : decode cX7_reckon 81 = .ok (.ifCond .ne 16, 3) := by decide +kernel
theorem dX7_reckon_84 : decode cX7_reckon 84 = .ok (.aload_n 0, 1) := by decide +kernel
theorem dX7_reckon_85 : decode cX7_reckon 85 = .ok (.getfield 9, 3) := by decide +kernel
theorem dX7_reckon_88 : decode cX7_reckon 88 = .ok (.iconst 1, 1) := by decide +kernel
theorem dX7_reckon_89 : decode cX7_reckon 89 = .ok (.dup2, 1) := by decide +kernel
theorem dX7_reckon_90 : decode cX7_reckon 90 = .ok (.laload, 1) := by decide +kernel
theorem dX7_reckon_91 : decode cX7_reckon 91 = .ok (.lconst 1, 1) := by decide +kernel
theorem dX7_reckon_92 : decode cX7_reckon 92 = .ok (.ladd, 1) := by decide +kernel
theorem dX7_reckon_93 : decode cX7_reckon 93 = .ok (.lastore, 1) := by decide +kernel
theorem dX7_reckon_94 : decode cX7_reckon 94 = .ok (.goto 56, 3) := by decide +kernel
theorem dX7_reckon_97 : decode cX7_reckon 97 = .ok (.aload_n 0, 1) := by decide +kernel
theorem dX7_reckon_98 : decode cX7_reckon 98 = .ok (.getfield 9, 3) := by decide +kernel
theorem dX7_reckon_101 : decode cX7_reckon 101 = .ok (.iconst 0, 1) := by decide +kernel
theorem dX7_reckon_102 : decode cX7_reckon 102 = .ok (.laload, 1) := by decide +kernel
theorem dX7_reckon_103 : decode cX7_reckon 103 = .ok (.lconst 0, 1) := by decide +kernel
theorem dX7_reckon_104 : decode cX7_reckon 104 = .ok (.lcmp, 1) := by decide +kernel
theorem dX7_reckon_105 : decode cX7_reckon 105 = .ok (.ifCond .le 21, 3) := by decide +kernel
theorem dX7_reckon_108 : decode cX7_reckon 108 = .ok (.aload_n 0, 1) := by decide +kernel
theorem dX7_reckon_109 : decode cX7_reckon 109 = .ok (.aload_n 1, 1) := by decide +kernel
theorem dX7_reckon_110 : decode cX7_reckon 110 = .ok (.getfield 70, 3) := by decide +kernel
theorem dX7_reckon_113 : decode cX7_reckon 113 = .ok (.iload 7, 2) := by decide +kernel
theorem dX7_reckon_115 : decode cX7_reckon 115 = .ok (.iload 4, 2) := by decide +kernel
theorem dX7_reckon_117 : decode cX7_reckon 117 = .ok (.isub, 1) := by decide +kernel
theorem dX7_reckon_118 : decode cX7_reckon 118 = .ok (.lload 5, 2) := by decide +kernel
theorem dX7_reckon_120 : decode cX7_reckon 120 = .ok (.lload 8, 2) := by decide +kernel
theorem dX7_reckon_122 : decode cX7_reckon 122 = .ok (.ladd, 1) := by decide +kernel
theorem dX7_reckon_123 : decode cX7_reckon 123 = .ok (.invokevirtual 73, 3) := by decide +kernel
theorem dX7_reckon_126 : decode cX7_reckon 126 = .ok (.aload_n 0, 1) := by decide +kernel
theorem dX7_reckon_127 : decode cX7_reckon 127 = .ok (.lload 8, 2) := by decide +kernel
theorem dX7_reckon_129 : decode cX7_reckon 129 = .ok (.aload_n 0, 1) := by decide +kernel
theorem dX7_reckon_130 : decode cX7_reckon 130 = .ok (.getfield 30, 3) := by decide +kernel
theorem dX7_reckon_133 : decode cX7_reckon 133 = .ok (.aload_n 1, 1) := by decide +kernel
theorem dX7_reckon_134 : decode cX7_reckon 134 = .ok (.iload 7, 2) := by decide +kernel
theorem dX7_reckon_136 : decode cX7_reckon 136 = .ok (.invokevirtual 77, 3) := by decide +kernel
theorem dX7_reckon_139 : decode cX7_reckon 139 = .ok (.invokevirtual 81, 3) := by decide +kernel
theorem dX7_reckon_142 : decode cX7_reckon 142 = .ok (.iload 7, 2) := by decide +kernel
theorem dX7_reckon_144 : decode cX7_reckon 144 = .ok (.istore 4, 2) := by decide +kernel
theorem dX7_reckon_146 : decode cX7_reckon 146 = .ok (.lload 8, 2) := by decide +kernel
theorem dX7_reckon_148 : decode cX7_reckon 148 = .ok (.lstore 5, 2) := by decide +kernel
theorem dX7_reckon_150 : decode cX7_reckon 150 = .ok (.iload 7, 2) := by decide +kernel
theorem dX7_reckon_152 : decode cX7_reckon 152 = .ok (.iconst 1, 1) := by decide +kernel
theorem dX7_reckon_153 : decode cX7_reckon 153 = .ok (.aload_n 1, 1) := by decide +kernel
theorem dX7_reckon_154 : decode cX7_reckon 154 = .ok (.getfield 70, 3) := by decide +kernel
theorem dX7_reckon_157 : decode cX7_reckon 157 = .ok (.invokestatic 85, 3) := by decide +kernel
theorem dX7_reckon_160 : decode cX7_reckon 160 = .ok (.iadd, 1) := by decide +kernel
theorem dX7_reckon_161 : decode cX7_reckon 161 = .ok (.istore 7, 2) := by decide +kernel
theorem dX7_reckon_163 : decode cX7_reckon 163 = .ok (.goto (-106), 3) := by decide +kernel
theorem dX7_reckon_166 : decode cX7_reckon 166 = .ok (.return_, 1) := by decide +kernel
theorem dX7_join_0 : decode cX7_join 0 = .ok (.iload_n 2, 1) := by decide +kernel
theorem dX7_join_1 : decode cX7_join 1 = .ok (.iload_n 1, 1) := by decide +kernel
theorem dX7_join_2 : decode cX7_join 2 = .ok (.if_icmp .ne 20, 3) := by decide +kernel
theorem dX7_join_5 : decode cX7_join 5 = .ok (.aload_n 0, 1) := by decide +kernel
theorem dX7_join_6 : decode cX7_join 6 = .ok (.getfield 9, 3) := by decide +kernel
theorem dX7_join_9 : decode cX7_join 9 = .ok (.bipush 6, 2) := by decide +kernel
theorem dX7_join_11 : decode cX7_join 11 = .ok (.dup2, 1) := by decide +kernel
theorem dX7_join_12 : decode cX7_join 12 = .ok (.laload, 1) := by decide +kernel
theorem dX7_join_13 : decode cX7_join 13 = .ok (.lload_n 3, 1) := by decide +kernel
theorem dX7_join_14 : decode cX7_join 14 = .ok (.iload_n 1, 1) := by decide +kernel
theorem dX7_join_15 : decode cX7_join 15 = .ok (.i2l, 1) := by decide +kernel
theorem dX7_join_16 : decode cX7_join 16 = .ok (.lmul, 1) := by decide +kernel
theorem dX7_join_17 : decode cX7_join 17 = .ok (.ladd, 1) := by decide +kernel
theorem dX7_join_18 : decode cX7_join 18 = .ok (.lastore, 1) := by decide +kernel
theorem dX7_join_19 : decode cX7_join 19 = .ok (.goto 14, 3) := by decide +kernel
theorem dX7_join_22 : decode cX7_join 22 = .ok (.aload_n 0, 1) := by decide +kernel
theorem dX7_join_23 : decode cX7_join 23 = .ok (.getfield 9, 3) := by decide +kernel
theorem dX7_join_26 : decode cX7_join 26 = .ok (.bipush 7, 2) := by decide +kernel
theorem dX7_join_28 : decode cX7_join 28 = .ok (.dup2, 1) := by decide +kernel
theorem dX7_join_29 : decode cX7_join 29 = .ok (.laload, 1) := by decide +kernel
theorem dX7_join_30 : decode cX7_join 30 = .ok (.lconst 1, 1) := by decide +kernel
theorem dX7_join_31 : decode cX7_join 31 = .ok (.ladd, 1) := by decide +kernel
theorem dX7_join_32 : decode cX7_join 32 = .ok (.lastore, 1) := by decide +kernel
theorem dX7_join_33 : decode cX7_join 33 = .ok (.return_, 1) := by decide +kernel
theorem dX7_count_0 : decode cX7_count 0 = .ok (.aload_n 0, 1) := by decide +kernel
theorem dX7_count_1 : decode cX7_count 1 = .ok (.getfield 9, 3) := by decide +kernel
theorem dX7_count_4 : decode cX7_count 4 = .ok (.iconst 0, 1) := by decide +kernel
theorem dX7_count_5 : decode cX7_count 5 = .ok (.laload, 1) := by decide +kernel
theorem dX7_count_6 : decode cX7_count 6 = .ok (.lconst 0, 1) := by decide +kernel
theorem dX7_count_7 : decode cX7_count 7 = .ok (.lcmp, 1) := by decide +kernel
theorem dX7_count_8 : decode cX7_count 8 = .ok (.ifCond .ne 7, 3) := by decide +kernel
theorem dX7_count_11 : decode cX7_count 11 = .ok (.iconst 1, 1) := by decide +kernel
theorem dX7_count_12 : decode cX7_count 12 = .ok (.goto 4, 3) := by decide +kernel
theorem dX7_count_15 : decode cX7_count 15 = .ok (.iconst 0, 1) := by decide +kernel
theorem dX7_count_16 : decode cX7_count 16 = .ok (.istore 4, 2) := by decide +kernel
theorem dX7_count_18 : decode cX7_count 18 = .ok (.aload_n 0, 1) := by decide +kernel
theorem dX7_count_19 : decode cX7_count 19 = .ok (.getfield 9, 3) := by decide +kernel
theorem dX7_count_22 : decode cX7_count 22 = .ok (.iconst 0, 1) := by decide +kernel
theorem dX7_count_23 : decode cX7_count 23 = .ok (.dup2, 1) := by decide +kernel
theorem dX7_count_24 : decode cX7_count 24 = .ok (.laload, 1) := by decide +kernel
theorem dX7_count_25 : decode cX7_count 25 = .ok (.lconst 1, 1) := by decide +kernel
theorem dX7_count_26 : decode cX7_count 26 = .ok (.ladd, 1) := by decide +kernel
theorem dX7_count_27 : decode cX7_count 27 = .ok (.lastore, 1) := by decide +kernel
theorem dX7_count_28 : decode cX7_count 28 = .ok (.aload_n 0, 1) := by decide +kernel
theorem dX7_count_29 : decode cX7_count 29 = .ok (.getfield 9, 3) := by decide +kernel
theorem dX7_count_32 : decode cX7_count 32 = .ok (.iconst 2, 1) := by decide +kernel
theorem dX7_count_33 : decode cX7_count 33 = .ok (.dup2, 1) := by decide +kernel
theorem dX7_count_34 : decode cX7_count 34 = .ok (.laload, 1) := by decide +kernel
theorem dX7_count_35 : decode cX7_count 35 = .ok (.iload_n 3, 1) := by decide +kernel
theorem dX7_count_36 : decode cX7_count 36 = .ok (.ifCond .eq 7, 3) := by decide +kernel
theorem dX7_count_39 : decode cX7_count 39 = .ok (.lconst 1, 1) := by decide +kernel
theorem dX7_count_40 : decode cX7_count 40 = .ok (.goto 4, 3) := by decide +kernel
theorem dX7_count_43 : decode cX7_count 43 = .ok (.lconst 0, 1) := by decide +kernel
theorem dX7_count_44 : decode cX7_count 44 = .ok (.ladd, 1) := by decide +kernel
theorem dX7_count_45 : decode cX7_count 45 = .ok (.lastore, 1) := by decide +kernel
theorem dX7_count_46 : decode cX7_count 46 = .ok (.aload_n 0, 1) := by decide +kernel
theorem dX7_count_47 : decode cX7_count 47 = .ok (.getfield 9, 3) := by decide +kernel
theorem dX7_count_50 : decode cX7_count 50 = .ok (.iconst 3, 1) := by decide +kernel
theorem dX7_count_51 : decode cX7_count 51 = .ok (.iload 4, 2) := by decide +kernel
theorem dX7_count_53 : decode cX7_count 53 = .ok (.ifCond .eq 7, 3) := by decide +kernel
theorem dX7_count_56 : decode cX7_count 56 = .ok (.lload_n 1, 1) := by decide +kernel
theorem dX7_count_57 : decode cX7_count 57 = .ok (.goto 13, 3) := by decide +kernel
theorem dX7_count_60 : decode cX7_count 60 = .ok (.aload_n 0, 1) := by decide +kernel
theorem dX7_count_61 : decode cX7_count 61 = .ok (.getfield 9, 3) := by decide +kernel
theorem dX7_count_64 : decode cX7_count 64 = .ok (.iconst 3, 1) := by decide +kernel
theorem dX7_count_65 : decode cX7_count 65 = .ok (.laload, 1) := by decide +kernel
theorem dX7_count_66 : decode cX7_count 66 = .ok (.lload_n 1, 1) := by decide +kernel
theorem dX7_count_67 : decode cX7_count 67 = .ok (.invokestatic 90, 3) := by decide +kernel
theorem dX7_count_70 : decode cX7_count 70 = .ok (.lastore, 1) := by decide +kernel
theorem dX7_count_71 : decode cX7_count 71 = .ok (.aload_n 0, 1) := by decide +kernel
theorem dX7_count_72 : decode cX7_count 72 = .ok (.getfield 9, 3) := by decide +kernel
theorem dX7_count_75 : decode cX7_count 75 = .ok (.iconst 4, 1) := by decide +kernel
theorem dX7_count_76 : decode cX7_count 76 = .ok (.iload 4, 2) := by decide +kernel
theorem dX7_count_78 : decode cX7_count 78 = .ok (.ifCond .eq 7, 3) := by decide +kernel
theorem dX7_count_81 : decode cX7_count 81 = .ok (.lload_n 1, 1) := by decide +kernel
theorem dX7_count_82 : decode cX7_count 82 = .ok (.goto 13, 3) := by decide +kernel
theorem dX7_count_85 : decode cX7_count 85 = .ok (.aload_n 0, 1) := by decide +kernel
theorem dX7_count_86 : decode cX7_count 86 = .ok (.getfield 9, 3) := by decide +kernel
theorem dX7_count_89 : decode cX7_count 89 = .ok (.iconst 4, 1) := by decide +kernel
theorem dX7_count_90 : decode cX7_count 90 = .ok (.laload, 1) := by decide +kernel
theorem dX7_count_91 : decode cX7_count 91 = .ok (.lload_n 1, 1) := by decide +kernel
theorem dX7_count_92 : decode cX7_count 92 = .ok (.invokestatic 94, 3) := by decide +kernel
theorem dX7_count_95 : decode cX7_count 95 = .ok (.lastore, 1) := by decide +kernel
theorem dX7_count_96 : decode cX7_count 96 = .ok (.aload_n 0, 1) := by decide +kernel
theorem dX7_count_97 : decode cX7_count 97 = .ok (.getfield 9, 3) := by decide +kernel
theorem dX7_count_100 : decode cX7_count 100 = .ok (.iconst 5, 1) := by decide +kernel
theorem dX7_count_101 : decode cX7_count 101 = .ok (.dup2, 1) := by decide +kernel
theorem dX7_count_102 : decode cX7_count 102 = .ok (.laload, 1) := by decide +kernel
theorem dX7_count_103 : decode cX7_count 103 = .ok (.lload_n 1, 1) := by decide +kernel
theorem dX7_count_104 : decode cX7_count 104 = .ok (.ladd, 1) := by decide +kernel
theorem dX7_count_105 : decode cX7_count 105 = .ok (.lastore, 1) := by decide +kernel
theorem dX7_count_106 : decode cX7_count 106 = .ok (.return_, 1) := by decide +kernel
theorem dX7_keepAhead_0 : decode cX7_keepAhead 0 = .ok (.iconst 0, 1) := by decide +kernel
theorem dX7_keepAhead_1 : decode cX7_keepAhead 1 = .ok (.istore_n 2, 1) := by decide +kernel
theorem dX7_keepAhead_2 : decode cX7_keepAhead 2 = .ok (.iload_n 2, 1) := by decide +kernel
theorem dX7_keepAhead_3 : decode cX7_keepAhead 3 = .ok (.aload_n 0, 1) := by decide +kernel
theorem dX7_keepAhead_4 : decode cX7_keepAhead 4 = .ok (.getfield 34, 3) := by decide +kernel
theorem dX7_keepAhead_7 : decode cX7_keepAhead 7 = .ok (.getfield 96, 3) := by decide +kernel
theorem dX7_keepAhead_10 : decode cX7_keepAhead 10 = .ok (.if_icmp .ge 52, 3) := by decide +kernel
theorem dX7_keepAhead_13 : decode cX7_keepAhead 13 = .ok (.iload_n 2, 1) := by decide +kernel
theorem dX7_keepAhead_14 : decode cX7_keepAhead 14 = .ok (.bipush 20, 2) := by decide +kernel
theorem dX7_keepAhead_16 : decode cX7_keepAhead 16 = .ok (.if_icmp .ge 46, 3) := by decide +kernel
theorem dX7_keepAhead_19 : decode cX7_keepAhead 19 = .ok (.aload_n 0, 1) := by decide +kernel
theorem dX7_keepAhead_20 : decode cX7_keepAhead 20 = .ok (.aload_n 1, 1) := by decide +kernel
theorem dX7_keepAhead_21 : decode cX7_keepAhead 21 = .ok (.iload_n 2, 1) := by decide +kernel
theorem dX7_keepAhead_22 : decode cX7_keepAhead 22 = .ok (.invokevirtual 98, 3) := by decide +kernel
theorem dX7_keepAhead_25 : decode cX7_keepAhead 25 = .ok (.iconst 0, 1) := by decide +kernel
theorem dX7_keepAhead_26 : decode cX7_keepAhead 26 = .ok (.istore_n 3, 1) := by decide +kernel
theorem dX7_keepAhead_27 : decode cX7_keepAhead 27 = .ok (.iload_n 3, 1) := by decide +kernel
theorem dX7_keepAhead_28 : decode cX7_keepAhead 28 = .ok (.bipush 8, 2) := by decide +kernel
theorem dX7_keepAhead_30 : decode cX7_keepAhead 30 = .ok (.if_icmp .ge 26, 3) := by decide +kernel
theorem dX7_keepAhead_33 : decode cX7_keepAhead 33 = .ok (.aload_n 0, 1) := by decide +kernel
theorem dX7_keepAhead_34 : decode cX7_keepAhead 34 = .ok (.getfield 15, 3) := by decide +kernel
theorem dX7_keepAhead_37 : decode cX7_keepAhead 37 = .ok (.iload_n 2, 1) := by decide +kernel
theorem dX7_keepAhead_38 : decode cX7_keepAhead 38 = .ok (.bipush 8, 2) := by decide +kernel
theorem dX7_keepAhead_40 : decode cX7_keepAhead 40 = .ok (.imul, 1) := by decide +kernel
theorem dX7_keepAhead_41 : decode cX7_keepAhead 41 = .ok (.iload_n 3, 1) := by decide +kernel
theorem dX7_keepAhead_42 : decode cX7_keepAhead 42 = .ok (.iadd, 1) := by decide +kernel
theorem dX7_keepAhead_43 : decode cX7_keepAhead 43 = .ok (.aload_n 0, 1) := by decide +kernel
theorem dX7_keepAhead_44 : decode cX7_keepAhead 44 = .ok (.getfield 9, 3) := by decide +kernel
theorem dX7_keepAhead_47 : decode cX7_keepAhead 47 = .ok (.iload_n 3, 1) := by decide +kernel
theorem dX7_keepAhead_48 : decode cX7_keepAhead 48 = .ok (.laload, 1) := by decide +kernel
theorem dX7_keepAhead_49 : decode cX7_keepAhead 49 = .ok (.lastore, 1) := by decide +kernel
theorem dX7_keepAhead_50 : decode cX7_keepAhead 50 = .ok (.iinc 3 1, 3) := by decide +kernel
theorem dX7_keepAhead_53 : decode cX7_keepAhead 53 = .ok (.goto (-26), 3) := by decide +kernel
theorem dX7_keepAhead_56 : decode cX7_keepAhead 56 = .ok (.iinc 2 1, 3) := by decide +kernel
theorem dX7_keepAhead_59 : decode cX7_keepAhead 59 = .ok (.goto (-57), 3) := by decide +kernel
theorem dX7_keepAhead_62 : decode cX7_keepAhead 62 = .ok (.return_, 1) := by decide +kernel
theorem dX7_nameOthers_0 : decode cX7_nameOthers 0 = .ok (.aload_n 0, 1) := by decide +kernel
theorem dX7_nameOthers_1 : decode cX7_nameOthers 1 = .ok (.iconst 0, 1) := by decide +kernel
theorem dX7_nameOthers_2 : decode cX7_nameOthers 2 = .ok (.putfield 22, 3) := by decide +kernel
theorem dX7_nameOthers_5 : decode cX7_nameOthers 5 = .ok (.iconst 0, 1) := by decide +kernel
theorem dX7_nameOthers_6 : decode cX7_nameOthers 6 = .ok (.istore_n 2, 1) := by decide +kernel
theorem dX7_nameOthers_7 : decode cX7_nameOthers 7 = .ok (.iload_n 2, 1) := by decide +kernel
theorem dX7_nameOthers_8 : decode cX7_nameOthers 8 = .ok (.aload_n 0, 1) := by decide +kernel
theorem dX7_nameOthers_9 : decode cX7_nameOthers 9 = .ok (.getfield 34, 3) := by decide +kernel
theorem dX7_nameOthers_12 : decode cX7_nameOthers 12 = .ok (.getfield 96, 3) := by decide +kernel
theorem dX7_nameOthers_15 : decode cX7_nameOthers 15 = .ok (.if_icmp .ge 74, 3) := by decide +kernel
theorem dX7_nameOthers_18 : decode cX7_nameOthers 18 = .ok (.iload_n 2, 1) := by decide +kernel
theorem dX7_nameOthers_19 : decode cX7_nameOthers 19 = .ok (.bipush 20, 2) := by decide +kernel
theorem dX7_nameOthers_21 : decode cX7_nameOthers 21 = .ok (.if_icmp .ge 68, 3) := by decide +kernel
theorem dX7_nameOthers_24 : decode cX7_nameOthers 24 = .ok (.aload_n 0, 1) := by decide +kernel
theorem dX7_nameOthers_25 : decode cX7_nameOthers 25 = .ok (.aload_n 1, 1) := by decide +kernel
theorem dX7_nameOthers_26 : decode cX7_nameOthers 26 = .ok (.iload_n 2, 1) := by decide +kernel
theorem dX7_nameOthers_27 : decode cX7_nameOthers 27 = .ok (.invokevirtual 98, 3) := by decide +kernel
theorem dX7_nameOthers_30 : decode cX7_nameOthers 30 = .ok (.iconst 0, 1) := by decide +kernel
theorem dX7_nameOthers_31 : decode cX7_nameOthers 31 = .ok (.istore_n 3, 1) := by decide +kernel
theorem dX7_nameOthers_32 : decode cX7_nameOthers 32 = .ok (.iload_n 3, 1) := by decide +kernel
theorem dX7_nameOthers_33 : decode cX7_nameOthers 33 = .ok (.bipush 8, 2) := by decide +kernel
theorem dX7_nameOthers_35 : decode cX7_nameOthers 35 = .ok (.if_icmp .ge 48, 3) := by decide +kernel
theorem dX7_nameOthers_38 : decode cX7_nameOthers 38 = .ok (.aload_n 0, 1) := by decide +kernel
theorem dX7_nameOthers_39 : decode cX7_nameOthers 39 = .ok (.getfield 9, 3) := by decide +kernel
theorem dX7_nameOthers_42 : decode cX7_nameOthers 42 = .ok (.iload_n 3, 1) := by decide +kernel
theorem dX7_nameOthers_43 : decode cX7_nameOthers 43 = .ok (.laload, 1) := by decide +kernel
theorem dX7_nameOthers_44 : decode cX7_nameOthers 44 = .ok (.aload_n 0, 1) := by decide +kernel
theorem dX7_nameOthers_45 : decode cX7_nameOthers 45 = .ok (.getfield 15, 3) := by decide +kernel
theorem dX7_nameOthers_48 : decode cX7_nameOthers 48 = .ok (.iload_n 2, 1) := by decide +kernel
theorem dX7_nameOthers_49 : decode cX7_nameOthers 49 = .ok (.bipush 8, 2) := by decide +kernel
theorem dX7_nameOthers_51 : decode cX7_nameOthers 51 = .ok (.imul, 1) := by decide +kernel
theorem dX7_nameOthers_52 : decode cX7_nameOthers 52 = .ok (.iload_n 3, 1) := by decide +kernel
theorem dX7_nameOthers_53 : decode cX7_nameOthers 53 = .ok (.iadd, 1) := by decide +kernel
theorem dX7_nameOthers_54 : decode cX7_nameOthers 54 = .ok (.laload, 1) := by decide +kernel
theorem dX7_nameOthers_55 : decode cX7_nameOthers 55 = .ok (.lcmp, 1) := by decide +kernel
theorem dX7_nameOthers_56 : decode cX7_nameOthers 56 = .ok (.ifCond .eq 21, 3) := by decide +kernel
theorem dX7_nameOthers_59 : decode cX7_nameOthers 59 = .ok (.aload_n 0, 1) := by decide +kernel
theorem dX7_nameOthers_60 : decode cX7_nameOthers 60 = .ok (.bipush 80, 2) := by decide +kernel
theorem dX7_nameOthers_62 : decode cX7_nameOthers 62 = .ok (.iload_n 2, 1) := by decide +kernel
theorem dX7_nameOthers_63 : decode cX7_nameOthers 63 = .ok (.imul, 1) := by decide +kernel
theorem dX7_nameOthers_64 : decode cX7_nameOthers 64 = .ok (.bipush 10, 2) := by decide +kernel
theorem dX7_nameOthers_66 : decode cX7_nameOthers 66 = .ok (.aload_n 1, 1) := by decide +kernel
theorem dX7_nameOthers_67 : decode cX7_nameOthers 67 = .ok (.getfield 102, 3) := by decide +kernel
theorem dX7_nameOthers_70 : decode cX7_nameOthers 70 = .ok (.imul, 1) := by decide +kernel
theorem dX7_nameOthers_71 : decode cX7_nameOthers 71 = .ok (.iadd, 1) := by decide +kernel
theorem dX7_nameOthers_72 : decode cX7_nameOthers 72 = .ok (.iload_n 3, 1) := by decide +kernel
theorem dX7_nameOthers_73 : decode cX7_nameOthers 73 = .ok (.iadd, 1) := by decide +kernel
theorem dX7_nameOthers_74 : decode cX7_nameOthers 74 = .ok (.invokevirtual 105, 3) := by decide +kernel
theorem dX7_nameOthers_77 : decode cX7_nameOthers 77 = .ok (.iinc 3 1, 3) := by decide +kernel
theorem dX7_nameOthers_80 : decode cX7_nameOthers 80 = .ok (.goto (-48), 3) := by decide +kernel
theorem dX7_nameOthers_83 : decode cX7_nameOthers 83 = .ok (.iinc 2 1, 3) := by decide +kernel
theorem dX7_nameOthers_86 : decode cX7_nameOthers 86 = .ok (.goto (-79), 3) := by decide +kernel
theorem dX7_nameOthers_89 : decode cX7_nameOthers 89 = .ok (.return_, 1) := by decide +kernel
theorem dX7_name_0 : decode cX7_name 0 = .ok (.aload_n 0, 1) := by decide +kernel
theorem dX7_name_1 : decode cX7_name 1 = .ok (.getfield 22, 3) := by decide +kernel
theorem dX7_name_4 : decode cX7_name 4 = .ok (.iconst 0, 1) := by decide +kernel
theorem dX7_name_5 : decode cX7_name 5 = .ok (.sipush 159, 3) := by decide +kernel
theorem dX7_name_8 : decode cX7_name 8 = .ok (.invokestatic 38, 3) := by decide +kernel
theorem dX7_name_11 : decode cX7_name 11 = .ok (.ifCond .eq 23, 3) := by decide +kernel
theorem dX7_name_14 : decode cX7_name 14 = .ok (.aload_n 0, 1) := by decide +kernel
theorem dX7_name_15 : decode cX7_name 15 = .ok (.getfield 18, 3) := by decide +kernel
theorem dX7_name_18 : decode cX7_name 18 = .ok (.aload_n 0, 1) := by decide +kernel
theorem dX7_name_19 : decode cX7_name 19 = .ok (.getfield 22, 3) := by decide +kernel
theorem dX7_name_22 : decode cX7_name 22 = .ok (.iload_n 1, 1) := by decide +kernel
theorem dX7_name_23 : decode cX7_name 23 = .ok (.iastore, 1) := by decide +kernel
theorem dX7_name_24 : decode cX7_name 24 = .ok (.aload_n 0, 1) := by decide +kernel
theorem dX7_name_25 : decode cX7_name 25 = .ok (.dup, 1) := by decide +kernel
theorem dX7_name_26 : decode cX7_name 26 = .ok (.getfield 22, 3) := by decide +kernel
theorem dX7_name_29 : decode cX7_name 29 = .ok (.iconst 1, 1) := by decide +kernel
theorem dX7_name_30 : decode cX7_name 30 = .ok (.iadd, 1) := by decide +kernel
theorem dX7_name_31 : decode cX7_name 31 = .ok (.putfield 22, 3) := by decide +kernel
theorem dX7_name_34 : decode cX7_name 34 = .ok (.return_, 1) := by decide +kernel
theorem dX8_init_0 : decode cX8_init 0 = .ok (.aload_n 0, 1) := by decide +kernel
theorem dX8_init_1 : decode cX8_init 1 = .ok (.invokespecial 3, 3) := by decide +kernel
theorem dX8_init_4 : decode cX8_init 4 = .ok (.aload_n 0, 1) := by decide +kernel
theorem dX8_init_5 : decode cX8_init 5 = .ok (.bipush 30, 2) := by decide +kernel
theorem dX8_init_7 : decode cX8_init 7 = .ok (.newarray .int, 2) := by decide +kernel
theorem dX8_init_9 : decode cX8_init 9 = .ok (.putfield 9, 3) := by decide +kernel
theorem dX8_init_12 : decode cX8_init 12 = .ok (.aload_n 0, 1) := by decide +kernel
theorem dX8_init_13 : decode cX8_init 13 = .ok (.iconst 0, 1) := by decide +kernel
theorem dX8_init_14 : decode cX8_init 14 = .ok (.putfield 15, 3) := by decide +kernel
theorem dX8_init_17 : decode cX8_init 17 = .ok (.aload_n 0, 1) := by decide +kernel
theorem dX8_init_18 : decode cX8_init 18 = .ok (.iconst 0, 1) := by decide +kernel
theorem dX8_init_19 : decode cX8_init 19 = .ok (.putfield 19, 3) := by decide +kernel
theorem dX8_init_22 : decode cX8_init 22 = .ok (.aload_n 0, 1) := by decide +kernel
theorem dX8_init_23 : decode cX8_init 23 = .ok (.bipush (-9), 2) := by decide +kernel
theorem dX8_init_25 : decode cX8_init 25 = .ok (.putfield 22, 3) := by decide +kernel
theorem dX8_init_28 : decode cX8_init 28 = .ok (.aload_n 0, 1) := by decide +kernel
theorem dX8_init_29 : decode cX8_init 29 = .ok (.iconst 0, 1) := by decide +kernel
theorem dX8_init_30 : decode cX8_init 30 = .ok (.putfield 25, 3) := by decide +kernel
theorem dX8_init_33 : decode cX8_init 33 = .ok (.aload_n 0, 1) := by decide +kernel
theorem dX8_init_34 : decode cX8_init 34 = .ok (.iconst 0, 1) := by decide +kernel
theorem dX8_init_35 : decode cX8_init 35 = .ok (.putfield 28, 3) := by decide +kernel
theorem dX8_init_38 : decode cX8_init 38 = .ok (.aload_n 0, 1) := by decide +kernel
theorem dX8_init_39 : decode cX8_init 39 = .ok (.iconst 0, 1) := by decide +kernel
theorem dX8_init_40 : decode cX8_init 40 = .ok (.putfield 31, 3) := by decide +kernel
theorem dX8_init_43 : decode cX8_init 43 = .ok (.aload_n 0, 1) := by decide +kernel
theorem dX8_init_44 : decode cX8_init 44 = .ok (.iconst 0, 1) := by decide +kernel
theorem dX8_init_45 : decode cX8_init 45 = .ok (.putfield 34, 3) := by decide +kernel
theorem dX8_init_48 : decode cX8_init 48 = .ok (.aload_n 0, 1) := by decide +kernel
theorem dX8_init_49 : decode cX8_init 49 = .ok (.iconst 0, 1) := by decide +kernel
theorem dX8_init_50 : decode cX8_init 50 = .ok (.putfield 37, 3) := by decide +kernel
theorem dX8_init_53 : decode cX8_init 53 = .ok (.aload_n 0, 1) := by decide +kernel
theorem dX8_init_54 : decode cX8_init 54 = .ok (.iconst 0, 1) := by decide +kernel
theorem dX8_init_55 : decode cX8_init 55 = .ok (.putfield 40, 3) := by decide +kernel
theorem dX8_init_58 : decode cX8_init 58 = .ok (.aload_n 0, 1) := by decide +kernel
theorem dX8_init_59 : decode cX8_init 59 = .ok (.aload_n 1, 1) := by decide +kernel
theorem dX8_init_60 : decode cX8_init 60 = .ok (.putfield 43, 3) := by decide +kernel
theorem dX8_init_63 : decode cX8_init 63 = .ok (.aload_n 0, 1) := by decide +kernel
theorem dX8_init_64 : decode cX8_init 64 = .ok (.aload_n 2, 1) := by decide +kernel
theorem dX8_init_65 : decode cX8_init 65 = .ok (.putfield 47, 3) := by decide +kernel
theorem dX8_init_68 : decode cX8_init 68 = .ok (.aload_n 0, 1) := by decide +kernel
theorem dX8_init_69 : decode cX8_init 69 = .ok (.aload_n 3, 1) := by decide +kernel
theorem dX8_init_70 : decode cX8_init 70 = .ok (.putfield 51, 3) := by decide +kernel
theorem dX8_init_73 : decode cX8_init 73 = .ok (.aload_n 0, 1) := by decide +kernel
theorem dX8_init_74 : decode cX8_init 74 = .ok (.aload 4, 2) := by decide +kernel
theorem dX8_init_76 : decode cX8_init 76 = .ok (.putfield 55, 3) := by decide +kernel
theorem dX8_init_79 : decode cX8_init 79 = .ok (.return_, 1) := by decide +kernel
theorem dX8_isOff_0 : decode cX8_isOff 0 = .ok (.aload_n 0, 1) := by decide +kernel
theorem dX8_isOff_1 : decode cX8_isOff 1 = .ok (.getfield 15, 3) := by decide +kernel
theorem dX8_isOff_4 : decode cX8_isOff 4 = .ok (.ifCond .ne 7, 3) := by decide +kernel
theorem dX8_isOff_7 : decode cX8_isOff 7 = .ok (.iconst 1, 1) := by decide +kernel
theorem dX8_isOff_8 : decode cX8_isOff 8 = .ok (.goto 4, 3) := by decide +kernel
theorem dX8_isOff_11 : decode cX8_isOff 11 = .ok (.iconst 0, 1) := by decide +kernel
theorem dX8_isOff_12 : decode cX8_isOff 12 = .ok (.ireturn, 1) := by decide +kernel
theorem dX8_isGoing_0 : decode cX8_isGoing 0 = .ok (.aload_n 0, 1) := by decide +kernel
theorem dX8_isGoing_1 : decode cX8_isGoing 1 = .ok (.getfield 15, 3) := by decide +kernel
theorem dX8_isGoing_4 : decode cX8_isGoing 4 = .ok (.iconst 1, 1) := by decide +kernel
theorem dX8_isGoing_5 : decode cX8_isGoing 5 = .ok (.if_icmp .eq 11, 3) := by decide +kernel
theorem dX8_isGoing_8 : decode cX8_isGoing 8 = .ok (.aload_n 0, 1) := by decide +kernel
theorem dX8_isGoing_9 : decode cX8_isGoing 9 = .ok (.getfield 15, 3) := by decide +kernel
theorem dX8_isGoing_12 : decode cX8_isGoing 12 = .ok (.iconst 2, 1) := by decide +kernel
theorem dX8_isGoing_13 : decode cX8_isGoing 13 = .ok (.if_icmp .ne 7, 3) := by decide +kernel
theorem dX8_isGoing_16 : decode cX8_isGoing 16 = .ok (.iconst 1, 1) := by decide +kernel
theorem dX8_isGoing_17 : decode cX8_isGoing 17 = .ok (.goto 4, 3) := by decide +kernel
theorem dX8_isGoing_20 : decode cX8_isGoing 20 = .ok (.iconst 0, 1) := by decide +kernel
theorem dX8_isGoing_21 : decode cX8_isGoing 21 = .ok (.ireturn, 1) := by decide +kernel
theorem dX8_rest_0 : decode cX8_rest 0 = .ok (.aload_n 0, 1) := by decide +kernel
theorem dX8_rest_1 : decode cX8_rest 1 = .ok (.iconst 0, 1) := by decide +kernel
theorem dX8_rest_2 : decode cX8_rest 2 = .ok (.putfield 15, 3) := by decide +kernel
theorem dX8_rest_5 : decode cX8_rest 5 = .ok (.aload_n 0, 1) := by decide +kernel
theorem dX8_rest_6 : decode cX8_rest 6 = .ok (.bipush (-9), 2) := by decide +kernel
theorem dX8_rest_8 : decode cX8_rest 8 = .ok (.putfield 22, 3) := by decide +kernel
theorem dX8_rest_11 : decode cX8_rest 11 = .ok (.aload_n 0, 1) := by decide +kernel
theorem dX8_rest_12 : decode cX8_rest 12 = .ok (.iconst 0, 1) := by decide +kernel
theorem dX8_rest_13 : decode cX8_rest 13 = .ok (.putfield 25, 3) := by decide +kernel
theorem dX8_rest_16 : decode cX8_rest 16 = .ok (.aload_n 0, 1) := by decide +kernel
theorem dX8_rest_17 : decode cX8_rest 17 = .ok (.iconst 0, 1) := by decide +kernel
theorem dX8_rest_18 : decode cX8_rest 18 = .ok (.invokevirtual 59, 3) := by decide +kernel
theorem dX8_rest_21 : decode cX8_rest 21 = .ok (.return_, 1) := by decide +kernel
theorem dX8_begin_0 : decode cX8_begin 0 = .ok (.aload_n 0, 1) := by decide +kernel
theorem dX8_begin_1 : decode cX8_begin 1 = .ok (.iconst 1, 1) := by decide +kernel
theorem dX8_begin_2 : decode cX8_begin 2 = .ok (.putfield 15, 3) := by decide +kernel
theorem dX8_begin_5 : decode cX8_begin 5 = .ok (.aload_n 0, 1) := by decide +kernel
theorem dX8_begin_6 : decode cX8_begin 6 = .ok (.iconst 0, 1) := by decide +kernel
theorem dX8_begin_7 : decode cX8_begin 7 = .ok (.invokevirtual 59, 3) := by decide +kernel
theorem dX8_begin_10 : decode cX8_begin 10 = .ok (.iconst 0, 1) := by decide +kernel
theorem dX8_begin_11 : decode cX8_begin 11 = .ok (.istore_n 1, 1) := by decide +kernel
theorem dX8_begin_12 : decode cX8_begin 12 = .ok (.iload_n 1, 1) := by decide +kernel
theorem dX8_begin_13 : decode cX8_begin 13 = .ok (.bipush 30, 2) := by decide +kernel
theorem dX8_begin_15 : decode cX8_begin 15 = .ok (.if_icmp .ge 16, 3) := by decide +kernel
theorem dX8_begin_18 : decode cX8_begin 18 = .ok (.aload_n 0, 1) := by decide +kernel
theorem dX8_begin_19 : decode cX8_begin 19 = .ok (.getfield 9, 3) := by decide +kernel
theorem dX8_begin_22 : decode cX8_begin 22 = .ok (.iload_n 1, 1) := by decide +kernel
theorem dX8_begin_23 : decode cX8_begin 23 = .ok (.iconst 0, 1) := by decide +kernel
theorem dX8_begin_24 : decode cX8_begin 24 = .ok (.iastore, 1) := by decide +kernel
theorem dX8_begin_25 : decode cX8_begin 25 = .ok (.iinc 1 1, 3) := by decide +kernel
theorem dX8_begin_28 : decode cX8_begin 28 = .ok (.goto (-16), 3) := by decide +kernel
theorem dX8_begin_31 : decode cX8_begin 31 = .ok (.return_, 1) := by decide +kernel
theorem dX8_halt_0 : decode cX8_halt 0 = .ok (.aload_n 0, 1) := by decide +kernel
theorem dX8_halt_1 : decode cX8_halt 1 = .ok (.iload_n 1, 1) := by decide +kernel
theorem dX8_halt_2 : decode cX8_halt 2 = .ok (.putfield 22, 3) := by decide +kernel
theorem dX8_halt_5 : decode cX8_halt 5 = .ok (.aload_n 0, 1) := by decide +kernel
theorem dX8_halt_6 : decode cX8_halt 6 = .ok (.iconst 2, 1) := by decide +kernel
theorem dX8_halt_7 : decode cX8_halt 7 = .ok (.putfield 15, 3) := by decide +kernel
theorem dX8_halt_10 : decode cX8_halt 10 = .ok (.return_, 1) := by decide +kernel
theorem dX8_oneTick_0 : decode cX8_oneTick 0 = .ok (.aload_n 0, 1) := by decide +kernel
theorem dX8_oneTick_1 : decode cX8_oneTick 1 = .ok (.aload_n 0, 1) := by decide +kernel
theorem dX8_oneTick_2 : decode cX8_oneTick 2 = .ok (.getfield 43, 3) := by decide +kernel
theorem dX8_oneTick_5 : decode cX8_oneTick 5 = .ok (.iconst 5, 1) := by decide +kernel
theorem dX8_oneTick_6 : decode cX8_oneTick 6 = .ok (.invokevirtual 63, 3) := by decide +kernel
theorem dX8_oneTick_9 : decode cX8_oneTick 9 = .ok (.putfield 31, 3) := by decide +kernel
theorem dX8_oneTick_12 : decode cX8_oneTick 12 = .ok (.aload_n 0, 1) := by decide +kernel
theorem dX8_oneTick_13 : decode cX8_oneTick 13 = .ok (.aload_n 0, 1) := by decide +kernel
theorem dX8_oneTick_14 : decode cX8_oneTick 14 = .ok (.getfield 43, 3) := by decide +kernel
theorem dX8_oneTick_17 : decode cX8_oneTick 17 = .ok (.bipush 6, 2) := by decide +kernel
theorem dX8_oneTick_19 : decode cX8_oneTick 19 = .ok (.invokevirtual 63, 3) := by decide +kernel
theorem dX8_oneTick_22 : decode cX8_oneTick 22 = .ok (.putfield 34, 3) := by decide +kernel
theorem dX8_oneTick_25 : decode cX8_oneTick 25 = .ok (.aload_n 0, 1) := by decide +kernel
theorem dX8_oneTick_26 : decode cX8_oneTick 26 = .ok (.getfield 15, 3) := by decide +kernel
theorem dX8_oneTick_29 : decode cX8_oneTick 29 = .ok (.iconst 1, 1) := by decide +kernel
theorem dX8_oneTick_30 : decode cX8_oneTick 30 = .ok (.if_icmp .ne 7, 3) := by decide +kernel
theorem dX8_oneTick_33 : decode cX8_oneTick 33 = .ok (.aload_n 0, 1) := by decide +kernel
theorem dX8_oneTick_34 : decode cX8_oneTick 34 = .ok (.invokevirtual 69, 3) := by decide +kernel
theorem dX8_oneTick_37 : decode cX8_oneTick 37 = .ok (.aload_n 0, 1) := by decide +kernel
theorem dX8_oneTick_38 : decode cX8_oneTick 38 = .ok (.getfield 15, 3) := by decide +kernel
theorem dX8_oneTick_41 : decode cX8_oneTick 41 = .ok (.iconst 2, 1) := by decide +kernel
theorem dX8_oneTick_42 : decode cX8_oneTick 42 = .ok (.if_icmp .ne 45, 3) := by decide +kernel
theorem dX8_oneTick_45 : decode cX8_oneTick 45 = .ok (.aload_n 0, 1) := by decide +kernel
theorem dX8_oneTick_46 : decode cX8_oneTick 46 = .ok (.getfield 43, 3) := by decide +kernel
theorem dX8_oneTick_49 : decode cX8_oneTick 49 = .ok (.sipush 800, 3) := by decide +kernel
theorem dX8_oneTick_52 : decode cX8_oneTick 52 = .ok (.iconst 0, 1) := by decide +kernel
theorem dX8_oneTick_53 : decode cX8_oneTick 53 = .ok (.invokevirtual 72, 3) := by decide +kernel
theorem dX8_oneTick_56 : decode cX8_oneTick 56 = .ok (.aload_n 0, 1) := by decide +kernel
theorem dX8_oneTick_57 : decode cX8_oneTick 57 = .ok (.dup, 1) := by decide +kernel
theorem dX8_oneTick_58 : decode cX8_oneTick 58 = .ok (.getfield 25, 3) := by decide +kernel
theorem dX8_oneTick_61 : decode cX8_oneTick 61 = .ok (.iconst 1, 1) := by decide +kernel
theorem dX8_oneTick_62 : decode cX8_oneTick 62 = .ok (.iadd, 1) := by decide +kernel
theorem dX8_oneTick_63 : decode cX8_oneTick 63 = .ok (.putfield 25, 3) := by decide +kernel
theorem dX8_oneTick_66 : decode cX8_oneTick 66 = .ok (.aload_n 0, 1) := by decide +kernel
theorem dX8_oneTick_67 : decode cX8_oneTick 67 = .ok (.aload_n 0, 1) := by decide +kernel
theorem dX8_oneTick_68 : decode cX8_oneTick 68 = .ok (.getfield 25, 3) := by decide +kernel
theorem dX8_oneTick_71 : decode cX8_oneTick 71 = .ok (.bipush 10, 2) := by decide +kernel
theorem dX8_oneTick_73 : decode cX8_oneTick 73 = .ok (.if_icmp .ge 7, 3) := by decide +kernel
theorem dX8_oneTick_76 : decode cX8_oneTick 76 = .ok (.iconst 2, 1) := by decide +kernel
theorem dX8_oneTick_77 : decode cX8_oneTick 77 = .ok (.goto 4, 3) := by decide +kernel
theorem dX8_oneTick_80 : decode cX8_oneTick 80 = .ok (.iconst 3, 1) := by decide +kernel
theorem dX8_oneTick_81 : decode cX8_oneTick 81 = .ok (.putfield 15, 3) := by decide +kernel
theorem dX8_oneTick_84 : decode cX8_oneTick 84 = .ok (.goto 40, 3) := by decide +kernel
theorem dX8_oneTick_87 : decode cX8_oneTick 87 = .ok (.aload_n 0, 1) := by decide +kernel
theorem dX8_oneTick_88 : decode cX8_oneTick 88 = .ok (.getfield 43, 3) := by decide +kernel
theorem dX8_oneTick_91 : decode cX8_oneTick 91 = .ok (.aload_n 0, 1) := by decide +kernel
theorem dX8_oneTick_92 : decode cX8_oneTick 92 = .ok (.getfield 31, 3) := by decide +kernel
theorem dX8_oneTick_95 : decode cX8_oneTick 95 = .ok (.aload_n 0, 1) := by decide +kernel
theorem dX8_oneTick_96 : decode cX8_oneTick 96 = .ok (.getfield 34, 3) := by decide +kernel
theorem dX8_oneTick_99 : decode cX8_oneTick 99 = .ok (.invokevirtual 72, 3) := by decide +kernel
theorem dX8_oneTick_102 : decode cX8_oneTick 102 = .ok (.aload_n 0, 1) := by decide +kernel
theorem dX8_oneTick_103 : decode cX8_oneTick 103 = .ok (.getfield 51, 3) := by decide +kernel
theorem dX8_oneTick_106 : decode cX8_oneTick 106 = .ok (.aload_n 0, 1) := by decide +kernel
theorem dX8_oneTick_107 : decode cX8_oneTick 107 = .ok (.getfield 43, 3) := by decide +kernel
theorem dX8_oneTick_110 : decode cX8_oneTick 110 = .ok (.getfield 76, 3) := by decide +kernel
theorem dX8_oneTick_113 : decode cX8_oneTick 113 = .ok (.invokevirtual 79, 3) := by decide +kernel
theorem dX8_oneTick_116 : decode cX8_oneTick 116 = .ok (.ifCond .eq 8, 3) := by decide +kernel
theorem dX8_oneTick_119 : decode cX8_oneTick 119 = .ok (.aload_n 0, 1) := by decide +kernel
theorem dX8_oneTick_120 : decode cX8_oneTick 120 = .ok (.iconst 1, 1) := by decide +kernel
theorem dX8_oneTick_121 : decode cX8_oneTick 121 = .ok (.invokevirtual 85, 3) := by decide +kernel
theorem dX8_oneTick_124 : decode cX8_oneTick 124 = .ok (.return_, 1) := by decide +kernel
theorem dX8_goOn_0 : decode cX8_goOn 0 = .ok (.iconst 0, 1) := by decide +kernel
theorem dX8_goOn_1 : decode cX8_goOn 1 = .ok (.istore_n 1, 1) := by decide +kernel
theorem dX8_goOn_2 : decode cX8_goOn 2 = .ok (.iload_n 1, 1) := by decide +kernel
theorem dX8_goOn_3 : decode cX8_goOn 3 = .ok (.bipush 50, 2) := by decide +kernel
theorem dX8_goOn_5 : decode cX8_goOn 5 = .ok (.if_icmp .ge 128, 3) := by decide +kernel
theorem dX8_goOn_8 : decode cX8_goOn 8 = .ok (.aload_n 0, 1) := by decide +kernel
theorem dX8_goOn_9 : decode cX8_goOn 9 = .ok (.getfield 19, 3) := by decide +kernel
theorem dX8_goOn_12 : decode cX8_goOn 12 = .ok (.aload_n 0, 1) := by decide +kernel
theorem dX8_goOn_13 : decode cX8_goOn 13 = .ok (.getfield 47, 3) := by decide +kernel
theorem dX8_goOn_16 : decode cX8_goOn 16 = .ok (.getfield 88, 3) := by decide +kernel
theorem dX8_goOn_19 : decode cX8_goOn 19 = .ok (.if_icmp .lt 9, 3) := by decide +kernel
theorem dX8_goOn_22 : decode cX8_goOn 22 = .ok (.aload_n 0, 1) := by decide +kernel
theorem dX8_goOn_23 : decode cX8_goOn 23 = .ok (.iconst 0, 1) := by decide +kernel
theorem dX8_goOn_24 : decode cX8_goOn 24 = .ok (.invokevirtual 85, 3) := by decide +kernel
theorem dX8_goOn_27 : decode cX8_goOn 27 = .ok (.return_, 1) := by decide +kernel
theorem dX8_goOn_28 : decode cX8_goOn 28 = .ok (.aload_n 0, 1) := by decide +kernel
theorem dX8_goOn_29 : decode cX8_goOn 29 = .ok (.getfield 47, 3) := by decide +kernel
theorem dX8_goOn_32 : decode cX8_goOn 32 = .ok (.aload_n 0, 1) := by decide +kernel
theorem dX8_goOn_33 : decode cX8_goOn 33 = .ok (.getfield 19, 3) := by decide +kernel
theorem dX8_goOn_36 : decode cX8_goOn 36 = .ok (.iconst 0, 1) := by decide +kernel
theorem dX8_goOn_37 : decode cX8_goOn 37 = .ok (.invokevirtual 93, 3) := by decide +kernel
theorem dX8_goOn_40 : decode cX8_goOn 40 = .ok (.tableswitch 61 0 3 #[32, 37, 46, 54], 32) := by decide +kernel
theorem dX8_goOn_72 : decode cX8_goOn 72 = .ok (.aload_n 0, 1) := by decide +kernel
theorem dX8_goOn_73 : decode cX8_goOn 73 = .ok (.invokevirtual 97, 3) := by decide +kernel
theorem dX8_goOn_76 : decode cX8_goOn 76 = .ok (.return_, 1) := by decide +kernel
theorem dX8_goOn_77 : decode cX8_goOn 77 = .ok (.aload_n 0, 1) := by decide +kernel
theorem dX8_goOn_78 : decode cX8_goOn 78 = .ok (.invokevirtual 100, 3) := by decide +kernel
theorem dX8_goOn_81 : decode cX8_goOn 81 = .ok (.aload_n 0, 1) := by decide +kernel
theorem dX8_goOn_82 : decode cX8_goOn 82 = .ok (.invokevirtual 97, 3) := by decide +kernel
theorem dX8_goOn_85 : decode cX8_goOn 85 = .ok (.return_, 1) := by decide +kernel
theorem dX8_goOn_86 : decode cX8_goOn 86 = .ok (.aload_n 0, 1) := by decide +kernel
theorem dX8_goOn_87 : decode cX8_goOn 87 = .ok (.invokevirtual 103, 3) := by decide +kernel
theorem dX8_goOn_90 : decode cX8_goOn 90 = .ok (.ifCond .ne 37, 3) := by decide +kernel
theorem dX8_goOn_93 : decode cX8_goOn 93 = .ok (.return_, 1) := by decide +kernel
theorem dX8_goOn_94 : decode cX8_goOn 94 = .ok (.aload_n 0, 1) := by decide +kernel
theorem dX8_goOn_95 : decode cX8_goOn 95 = .ok (.invokevirtual 107, 3) := by decide +kernel
theorem dX8_goOn_98 : decode cX8_goOn 98 = .ok (.goto 29, 3) := by decide +kernel
theorem dX8_goOn_101 : decode cX8_goOn 101 = .ok (.aload_n 0, 1) := by decide +kernel
theorem dX8_goOn_102 : decode cX8_goOn 102 = .ok (.getfield 55, 3) := by decide +kernel
theorem dX8_goOn_105 : decode cX8_goOn 105 = .ok (.aload_n 0, 1) := by decide +kernel
theorem dX8_goOn_106 : decode cX8_goOn 106 = .ok (.getfield 43, 3) := by decide +kernel
theorem dX8_goOn_109 : decode cX8_goOn 109 = .ok (.getfield 76, 3) := by decide +kernel
theorem dX8_goOn_112 : decode cX8_goOn 112 = .ok (.iconst 1, 1) := by decide +kernel
theorem dX8_goOn_113 : decode cX8_goOn 113 = .ok (.iadd, 1) := by decide +kernel
theorem dX8_goOn_114 : decode cX8_goOn 114 = .ok (.invokevirtual 110, 3) := by decide +kernel
theorem dX8_goOn_117 : decode cX8_goOn 117 = .ok (.aload_n 0, 1) := by decide +kernel
theorem dX8_goOn_118 : decode cX8_goOn 118 = .ok (.aload_n 0, 1) := by decide +kernel
theorem dX8_goOn_119 : decode cX8_goOn 119 = .ok (.getfield 19, 3) := by decide +kernel
theorem dX8_goOn_122 : decode cX8_goOn 122 = .ok (.iconst 1, 1) := by decide +kernel
theorem dX8_goOn_123 : decode cX8_goOn 123 = .ok (.iadd, 1) := by decide +kernel
theorem dX8_goOn_124 : decode cX8_goOn 124 = .ok (.invokevirtual 59, 3) := by decide +kernel
theorem dX8_goOn_127 : decode cX8_goOn 127 = .ok (.iinc 1 1, 3) := by decide +kernel
theorem dX8_goOn_130 : decode cX8_goOn 130 = .ok (.goto (-128), 3) := by decide +kernel
theorem dX8_goOn_133 : decode cX8_goOn 133 = .ok (.aload_n 0, 1) := by decide +kernel
theorem dX8_goOn_134 : decode cX8_goOn 134 = .ok (.aload_n 0, 1) := by decide +kernel
theorem dX8_goOn_135 : decode cX8_goOn 135 = .ok (.getfield 19, 3) := by decide +kernel
theorem dX8_goOn_138 : decode cX8_goOn 138 = .ok (.aload_n 0, 1) := by decide +kernel
theorem dX8_goOn_139 : decode cX8_goOn 139 = .ok (.getfield 47, 3) := by decide +kernel
theorem dX8_goOn_142 : decode cX8_goOn 142 = .ok (.getfield 88, 3) := by decide +kernel
theorem dX8_goOn_145 : decode cX8_goOn 145 = .ok (.if_icmp .ge 7, 3) := by decide +kernel
theorem dX8_goOn_148 : decode cX8_goOn 148 = .ok (.iconst 3, 1) := by decide +kernel
theorem dX8_goOn_149 : decode cX8_goOn 149 = .ok (.goto 4, 3) := by decide +kernel
theorem dX8_goOn_152 : decode cX8_goOn 152 = .ok (.iconst 0, 1) := by decide +kernel
theorem dX8_goOn_153 : decode cX8_goOn 153 = .ok (.invokevirtual 85, 3) := by decide +kernel
theorem dX8_goOn_156 : decode cX8_goOn 156 = .ok (.return_, 1) := by decide +kernel
theorem dX8_comeTo_0 : decode cX8_comeTo 0 = .ok (.aload_n 0, 1) := by decide +kernel
theorem dX8_comeTo_1 : decode cX8_comeTo 1 = .ok (.iload_n 1, 1) := by decide +kernel
theorem dX8_comeTo_2 : decode cX8_comeTo 2 = .ok (.putfield 19, 3) := by decide +kernel
theorem dX8_comeTo_5 : decode cX8_comeTo 5 = .ok (.aload_n 0, 1) := by decide +kernel
theorem dX8_comeTo_6 : decode cX8_comeTo 6 = .ok (.iconst 0, 1) := by decide +kernel
theorem dX8_comeTo_7 : decode cX8_comeTo 7 = .ok (.putfield 28, 3) := by decide +kernel
theorem dX8_comeTo_10 : decode cX8_comeTo 10 = .ok (.return_, 1) := by decide +kernel
theorem dX8_spend_0 : decode cX8_spend 0 = .ok (.aload_n 0, 1) := by decide +kernel
theorem dX8_spend_1 : decode cX8_spend 1 = .ok (.dup, 1) := by decide +kernel
theorem dX8_spend_2 : decode cX8_spend 2 = .ok (.getfield 28, 3) := by decide +kernel
theorem dX8_spend_5 : decode cX8_spend 5 = .ok (.iconst 1, 1) := by decide +kernel
theorem dX8_spend_6 : decode cX8_spend 6 = .ok (.iadd, 1) := by decide +kernel
theorem dX8_spend_7 : decode cX8_spend 7 = .ok (.putfield 28, 3) := by decide +kernel
theorem dX8_spend_10 : decode cX8_spend 10 = .ok (.aload_n 0, 1) := by decide +kernel
theorem dX8_spend_11 : decode cX8_spend 11 = .ok (.getfield 28, 3) := by decide +kernel
theorem dX8_spend_14 : decode cX8_spend 14 = .ok (.aload_n 0, 1) := by decide +kernel
theorem dX8_spend_15 : decode cX8_spend 15 = .ok (.getfield 47, 3) := by decide +kernel
theorem dX8_spend_18 : decode cX8_spend 18 = .ok (.aload_n 0, 1) := by decide +kernel
theorem dX8_spend_19 : decode cX8_spend 19 = .ok (.getfield 19, 3) := by decide +kernel
theorem dX8_spend_22 : decode cX8_spend 22 = .ok (.iconst 1, 1) := by decide +kernel
theorem dX8_spend_23 : decode cX8_spend 23 = .ok (.invokevirtual 93, 3) := by decide +kernel
theorem dX8_spend_26 : decode cX8_spend 26 = .ok (.if_icmp .lt 13, 3) := by decide +kernel
theorem dX8_spend_29 : decode cX8_spend 29 = .ok (.aload_n 0, 1) := by decide +kernel
theorem dX8_spend_30 : decode cX8_spend 30 = .ok (.aload_n 0, 1) := by decide +kernel
theorem dX8_spend_31 : decode cX8_spend 31 = .ok (.getfield 19, 3) := by decide +kernel
theorem dX8_spend_34 : decode cX8_spend 34 = .ok (.iconst 1, 1) := by decide +kernel
theorem dX8_spend_35 : decode cX8_spend 35 = .ok (.iadd, 1) := by decide +kernel
theorem dX8_spend_36 : decode cX8_spend 36 = .ok (.invokevirtual 59, 3) := by decide +kernel
theorem dX8_spend_39 : decode cX8_spend 39 = .ok (.return_, 1) := by decide +kernel
theorem dX8_ramp_0 : decode cX8_ramp 0 = .ok (.aload_n 0, 1) := by decide +kernel
theorem dX8_ramp_1 : decode cX8_ramp 1 = .ok (.getfield 28, 3) := by decide +kernel
theorem dX8_ramp_4 : decode cX8_ramp 4 = .ok (.ifCond .ne 19, 3) := by decide +kernel
theorem dX8_ramp_7 : decode cX8_ramp 7 = .ok (.aload_n 0, 1) := by decide +kernel
theorem dX8_ramp_8 : decode cX8_ramp 8 = .ok (.aload_n 0, 1) := by decide +kernel
theorem dX8_ramp_9 : decode cX8_ramp 9 = .ok (.getfield 31, 3) := by decide +kernel
theorem dX8_ramp_12 : decode cX8_ramp 12 = .ok (.putfield 37, 3) := by decide +kernel
theorem dX8_ramp_15 : decode cX8_ramp 15 = .ok (.aload_n 0, 1) := by decide +kernel
theorem dX8_ramp_16 : decode cX8_ramp 16 = .ok (.aload_n 0, 1) := by decide +kernel
theorem dX8_ramp_17 : decode cX8_ramp 17 = .ok (.getfield 34, 3) := by decide +kernel
theorem dX8_ramp_20 : decode cX8_ramp 20 = .ok (.putfield 40, 3) := by decide +kernel
theorem dX8_ramp_23 : decode cX8_ramp 23 = .ok (.aload_n 0, 1) := by decide +kernel
theorem dX8_ramp_24 : decode cX8_ramp 24 = .ok (.getfield 47, 3) := by decide +kernel
theorem dX8_ramp_27 : decode cX8_ramp 27 = .ok (.aload_n 0, 1) := by decide +kernel
theorem dX8_ramp_28 : decode cX8_ramp 28 = .ok (.getfield 19, 3) := by decide +kernel
theorem dX8_ramp_31 : decode cX8_ramp 31 = .ok (.iconst 1, 1) := by decide +kernel
theorem dX8_ramp_32 : decode cX8_ramp 32 = .ok (.invokevirtual 93, 3) := by decide +kernel
theorem dX8_ramp_35 : decode cX8_ramp 35 = .ok (.istore_n 1, 1) := by decide +kernel
theorem dX8_ramp_36 : decode cX8_ramp 36 = .ok (.iload_n 1, 1) := by decide +kernel
theorem dX8_ramp_37 : decode cX8_ramp 37 = .ok (.ifCond .le 70, 3) := by decide +kernel
theorem dX8_ramp_40 : decode cX8_ramp 40 = .ok (.aload_n 0, 1) := by decide +kernel
theorem dX8_ramp_41 : decode cX8_ramp 41 = .ok (.getfield 28, 3) := by decide +kernel
theorem dX8_ramp_44 : decode cX8_ramp 44 = .ok (.iconst 1, 1) := by decide +kernel
theorem dX8_ramp_45 : decode cX8_ramp 45 = .ok (.iadd, 1) := by decide +kernel
theorem dX8_ramp_46 : decode cX8_ramp 46 = .ok (.istore_n 2, 1) := by decide +kernel
theorem dX8_ramp_47 : decode cX8_ramp 47 = .ok (.aload_n 0, 1) := by decide +kernel
theorem dX8_ramp_48 : decode cX8_ramp 48 = .ok (.aload_n 0, 1) := by decide +kernel
theorem dX8_ramp_49 : decode cX8_ramp 49 = .ok (.getfield 37, 3) := by decide +kernel
theorem dX8_ramp_52 : decode cX8_ramp 52 = .ok (.iload_n 2, 1) := by decide +kernel
theorem dX8_ramp_53 : decode cX8_ramp 53 = .ok (.aload_n 0, 1) := by decide +kernel
theorem dX8_ramp_54 : decode cX8_ramp 54 = .ok (.getfield 47, 3) := by decide +kernel
theorem dX8_ramp_57 : decode cX8_ramp 57 = .ok (.aload_n 0, 1) := by decide +kernel
theorem dX8_ramp_58 : decode cX8_ramp 58 = .ok (.getfield 19, 3) := by decide +kernel
theorem dX8_ramp_61 : decode cX8_ramp 61 = .ok (.iconst 2, 1) := by decide +kernel
theorem dX8_ramp_62 : decode cX8_ramp 62 = .ok (.invokevirtual 93, 3) := by decide +kernel
theorem dX8_ramp_65 : decode cX8_ramp 65 = .ok (.aload_n 0, 1) := by decide +kernel
theorem dX8_ramp_66 : decode cX8_ramp 66 = .ok (.getfield 37, 3) := by decide +kernel
theorem dX8_ramp_69 : decode cX8_ramp 69 = .ok (.isub, 1) := by decide +kernel
theorem dX8_ramp_70 : decode cX8_ramp 70 = .ok (.imul, 1) := by decide +kernel
theorem dX8_ramp_71 : decode cX8_ramp 71 = .ok (.iload_n 1, 1) := by decide +kernel
theorem dX8_ramp_72 : decode cX8_ramp 72 = .ok (.idiv, 1) := by decide +kernel
theorem dX8_ramp_73 : decode cX8_ramp 73 = .ok (.iadd, 1) := by decide +kernel
theorem dX8_ramp_74 : decode cX8_ramp 74 = .ok (.putfield 31, 3) := by decide +kernel
theorem dX8_ramp_77 : decode cX8_ramp 77 = .ok (.aload_n 0, 1) := by decide +kernel
theorem dX8_ramp_78 : decode cX8_ramp 78 = .ok (.aload_n 0, 1) := by decide +kernel
theorem dX8_ramp_79 : decode cX8_ramp 79 = .ok (.getfield 40, 3) := by decide +kernel
theorem dX8_ramp_82 : decode cX8_ramp 82 = .ok (.iload_n 2, 1) := by decide +kernel
theorem dX8_ramp_83 : decode cX8_ramp 83 = .ok (.aload_n 0, 1) := by decide +kernel
theorem dX8_ramp_84 : decode cX8_ramp 84 = .ok (.getfield 47, 3) := by decide +kernel
theorem dX8_ramp_87 : decode cX8_ramp 87 = .ok (.aload_n 0, 1) := by decide +kernel
theorem dX8_ramp_88 : decode cX8_ramp 88 = .ok (.getfield 19, 3) := by decide +kernel
theorem dX8_ramp_91 : decode cX8_ramp 91 = .ok (.iconst 3, 1) := by decide +kernel
theorem dX8_ramp_92 : decode cX8_ramp 92 = .ok (.invokevirtual 93, 3) := by decide +kernel
theorem dX8_ramp_95 : decode cX8_ramp 95 = .ok (.aload_n 0, 1) := by decide +kernel
theorem dX8_ramp_96 : decode cX8_ramp 96 = .ok (.getfield 40, 3) := by decide +kernel
theorem dX8_ramp_99 : decode cX8_ramp 99 = .ok (.isub, 1) := by decide +kernel
theorem dX8_ramp_100 : decode cX8_ramp 100 = .ok (.imul, 1) := by decide +kernel
theorem dX8_ramp_101 : decode cX8_ramp 101 = .ok (.iload_n 1, 1) := by decide +kernel
theorem dX8_ramp_102 : decode cX8_ramp 102 = .ok (.idiv, 1) := by decide +kernel
theorem dX8_ramp_103 : decode cX8_ramp 103 = .ok (.iadd, 1) := by decide +kernel
theorem dX8_ramp_104 : decode cX8_ramp 104 = .ok (.putfield 34, 3) := by decide +kernel
theorem dX8_ramp_107 : decode cX8_ramp 107 = .ok (.return_, 1) := by decide +kernel
theorem dX8_isWaitOver_0 : decode cX8_isWaitOver 0 = .ok (.aload_n 0, 1) := by decide +kernel
theorem dX8_isWaitOver_1 : decode cX8_isWaitOver 1 = .ok (.getfield 51, 3) := by decide +kernel
theorem dX8_isWaitOver_4 : decode cX8_isWaitOver 4 = .ok (.aload_n 0, 1) := by decide +kernel
theorem dX8_isWaitOver_5 : decode cX8_isWaitOver 5 = .ok (.getfield 47, 3) := by decide +kernel
theorem dX8_isWaitOver_8 : decode cX8_isWaitOver 8 = .ok (.aload_n 0, 1) := by decide +kernel
theorem dX8_isWaitOver_9 : decode cX8_isWaitOver 9 = .ok (.getfield 19, 3) := by decide +kernel
theorem dX8_isWaitOver_12 : decode cX8_isWaitOver 12 = .ok (.iconst 1, 1) := by decide +kernel
theorem dX8_isWaitOver_13 : decode cX8_isWaitOver 13 = .ok (.invokevirtual 93, 3) := by decide +kernel
theorem dX8_isWaitOver_16 : decode cX8_isWaitOver 16 = .ok (.invokevirtual 115, 3) := by decide +kernel
theorem dX8_isWaitOver_19 : decode cX8_isWaitOver 19 = .ok (.astore_n 1, 1) := by decide +kernel
theorem dX8_isWaitOver_20 : decode cX8_isWaitOver 20 = .ok (.aload_n 1, 1) := by decide +kernel
theorem dX8_isWaitOver_21 : decode cX8_isWaitOver 21 = .ok (.ifnonnull 10, 3) := by decide +kernel
theorem dX8_isWaitOver_24 : decode cX8_isWaitOver 24 = .ok (.aload_n 0, 1) := by decide +kernel
theorem dX8_isWaitOver_25 : decode cX8_isWaitOver 25 = .ok (.iconst 2, 1) := by decide +kernel
theorem dX8_isWaitOver_26 : decode cX8_isWaitOver 26 = .ok (.invokevirtual 85, 3) := by decide +kernel
theorem dX8_isWaitOver_29 : decode cX8_isWaitOver 29 = .ok (.iconst 0, 1) := by decide +kernel
theorem dX8_isWaitOver_30 : decode cX8_isWaitOver 30 = .ok (.ireturn, 1) := by decide +kernel
theorem dX8_isWaitOver_31 : decode cX8_isWaitOver 31 = .ok (.aload_n 0, 1) := by decide +kernel
theorem dX8_isWaitOver_32 : decode cX8_isWaitOver 32 = .ok (.getfield 51, 3) := by decide +kernel
theorem dX8_isWaitOver_35 : decode cX8_isWaitOver 35 = .ok (.aload_n 1, 1) := by decide +kernel
theorem dX8_isWaitOver_36 : decode cX8_isWaitOver 36 = .ok (.aload_n 1, 1) := by decide +kernel
theorem dX8_isWaitOver_37 : decode cX8_isWaitOver 37 = .ok (.aload_n 0, 1) := by decide +kernel
theorem dX8_isWaitOver_38 : decode cX8_isWaitOver 38 = .ok (.getfield 43, 3) := by decide +kernel
theorem dX8_isWaitOver_41 : decode cX8_isWaitOver 41 = .ok (.getfield 76, 3) := by decide +kernel
theorem dX8_isWaitOver_44 : decode cX8_isWaitOver 44 = .ok (.invokevirtual 119, 3) := by decide +kernel
theorem dX8_isWaitOver_47 : decode cX8_isWaitOver 47 = .ok (.invokevirtual 124, 3) := by decide +kernel
theorem dX8_isWaitOver_50 : decode cX8_isWaitOver 50 = .ok (.lstore_n 2, 1) := by decide +kernel
theorem dX8_isWaitOver_51 : decode cX8_isWaitOver 51 = .ok (.lload_n 2, 1) := by decide +kernel
theorem dX8_isWaitOver_52 : decode cX8_isWaitOver 52 = .ok (.ldc2_w 128, 3) := by decide +kernel
theorem dX8_isWaitOver_55 : decode cX8_isWaitOver 55 = .ok (.lcmp, 1) := by decide +kernel
theorem dX8_isWaitOver_56 : decode cX8_isWaitOver 56 = .ok (.ifCond .eq 33, 3) := by decide +kernel
theorem dX8_isWaitOver_59 : decode cX8_isWaitOver 59 = .ok (.lload_n 2, 1) := by decide +kernel
theorem dX8_isWaitOver_60 : decode cX8_isWaitOver 60 = .ok (.aload_n 0, 1) := by decide +kernel
theorem dX8_isWaitOver_61 : decode cX8_isWaitOver 61 = .ok (.getfield 47, 3) := by decide +kernel
theorem dX8_isWaitOver_64 : decode cX8_isWaitOver 64 = .ok (.aload_n 0, 1) := by decide +kernel
theorem dX8_isWaitOver_65 : decode cX8_isWaitOver 65 = .ok (.getfield 19, 3) := by decide +kernel
theorem dX8_isWaitOver_68 : decode cX8_isWaitOver 68 = .ok (.iconst 2, 1) := by decide +kernel
theorem dX8_isWaitOver_69 : decode cX8_isWaitOver 69 = .ok (.invokevirtual 93, 3) := by decide +kernel
theorem dX8_isWaitOver_72 : decode cX8_isWaitOver 72 = .ok (.i2l, 1) := by decide +kernel
theorem dX8_isWaitOver_73 : decode cX8_isWaitOver 73 = .ok (.lcmp, 1) := by decide +kernel
theorem dX8_isWaitOver_74 : decode cX8_isWaitOver 74 = .ok (.ifCond .lt 15, 3) := by decide +kernel
theorem dX8_isWaitOver_77 : decode cX8_isWaitOver 77 = .ok (.aload_n 0, 1) := by decide +kernel
theorem dX8_isWaitOver_78 : decode cX8_isWaitOver 78 = .ok (.aload_n 0, 1) := by decide +kernel
theorem dX8_isWaitOver_79 : decode cX8_isWaitOver 79 = .ok (.getfield 19, 3) := by decide +kernel
theorem dX8_isWaitOver_82 : decode cX8_isWaitOver 82 = .ok (.iconst 1, 1) := by decide +kernel
theorem dX8_isWaitOver_83 : decode cX8_isWaitOver 83 = .ok (.iadd, 1) := by decide +kernel
theorem dX8_isWaitOver_84 : decode cX8_isWaitOver 84 = .ok (.invokevirtual 59, 3) := by decide +kernel
theorem dX8_isWaitOver_87 : decode cX8_isWaitOver 87 = .ok (.iconst 1, 1) := by decide +kernel
theorem dX8_isWaitOver_88 : decode cX8_isWaitOver 88 = .ok (.ireturn, 1) := by decide +kernel
theorem dX8_isWaitOver_89 : decode cX8_isWaitOver 89 = .ok (.aload_n 0, 1) := by decide +kernel
theorem dX8_isWaitOver_90 : decode cX8_isWaitOver 90 = .ok (.getfield 28, 3) := by decide +kernel
theorem dX8_isWaitOver_93 : decode cX8_isWaitOver 93 = .ok (.aload_n 0, 1) := by decide +kernel
theorem dX8_isWaitOver_94 : decode cX8_isWaitOver 94 = .ok (.getfield 47, 3) := by decide +kernel
theorem dX8_isWaitOver_97 : decode cX8_isWaitOver 97 = .ok (.aload_n 0, 1) := by decide +kernel
theorem dX8_isWaitOver_98 : decode cX8_isWaitOver 98 = .ok (.getfield 19, 3) := by decide +kernel
theorem dX8_isWaitOver_101 : decode cX8_isWaitOver 101 = .ok (.iconst 3, 1) := by decide +kernel
theorem dX8_isWaitOver_102 : decode cX8_isWaitOver 102 = .ok (.invokevirtual 93, 3) := by decide +kernel
theorem dX8_isWaitOver_105 : decode cX8_isWaitOver 105 = .ok (.if_icmp .lt 11, 3) := by decide +kernel
theorem dX8_isWaitOver_108 : decode cX8_isWaitOver 108 = .ok (.aload_n 0, 1) := by decide +kernel
theorem dX8_isWaitOver_109 : decode cX8_isWaitOver 109 = .ok (.iconst 2, 1) := by decide +kernel
theorem dX8_isWaitOver_110 : decode cX8_isWaitOver 110 = .ok (.invokevirtual 85, 3) := by decide +kernel
theorem dX8_isWaitOver_113 : decode cX8_isWaitOver 113 = .ok (.goto 13, 3) := by decide +kernel
theorem dX8_isWaitOver_116 : decode cX8_isWaitOver 116 = .ok (.aload_n 0, 1) := by decide +kernel
theorem dX8_isWaitOver_117 : decode cX8_isWaitOver 117 = .ok (.dup, 1) := by decide +kernel
theorem dX8_isWaitOver_118 : decode cX8_isWaitOver 118 = .ok (.getfield 28, 3) := by decide +kernel
theorem dX8_isWaitOver_121 : decode cX8_isWaitOver 121 = .ok (.iconst 1, 1) := by decide +kernel
theorem dX8_isWaitOver_122 : decode cX8_isWaitOver 122 = .ok (.iadd, 1) := by decide +kernel
theorem dX8_isWaitOver_123 : decode cX8_isWaitOver 123 = .ok (.putfield 28, 3) := by decide +kernel
theorem dX8_isWaitOver_126 : decode cX8_isWaitOver 126 = .ok (.iconst 0, 1) := by decide +kernel
theorem dX8_isWaitOver_127 : decode cX8_isWaitOver 127 = .ok (.ireturn, 1) := by decide +kernel
theorem dX8_loop_0 : decode cX8_loop 0 = .ok (.aload_n 0, 1) := by decide +kernel
theorem dX8_loop_1 : decode cX8_loop 1 = .ok (.getfield 19, 3) := by decide +kernel
theorem dX8_loop_4 : decode cX8_loop 4 = .ok (.iconst 0, 1) := by decide +kernel
theorem dX8_loop_5 : decode cX8_loop 5 = .ok (.bipush 29, 2) := by decide +kernel
theorem dX8_loop_7 : decode cX8_loop 7 = .ok (.invokestatic 130, 3) := by decide +kernel
theorem dX8_loop_10 : decode cX8_loop 10 = .ok (.ifCond .ne 4, 3) := by decide +kernel
theorem dX8_loop_13 : decode cX8_loop 13 = .ok (.return_, 1) := by decide +kernel
theorem dX8_loop_14 : decode cX8_loop 14 = .ok (.aload_n 0, 1) := by decide +kernel
theorem dX8_loop_15 : decode cX8_loop 15 = .ok (.getfield 9, 3) := by decide +kernel
theorem dX8_loop_18 : decode cX8_loop 18 = .ok (.aload_n 0, 1) := by decide +kernel
theorem dX8_loop_19 : decode cX8_loop 19 = .ok (.getfield 19, 3) := by decide +kernel
theorem dX8_loop_22 : decode cX8_loop 22 = .ok (.iaload, 1) := by decide +kernel
theorem dX8_loop_23 : decode cX8_loop 23 = .ok (.aload_n 0, 1) := by decide +kernel
theorem dX8_loop_24 : decode cX8_loop 24 = .ok (.getfield 47, 3) := by decide +kernel
theorem dX8_loop_27 : decode cX8_loop 27 = .ok (.aload_n 0, 1) := by decide +kernel
theorem dX8_loop_28 : decode cX8_loop 28 = .ok (.getfield 19, 3) := by decide +kernel
theorem dX8_loop_31 : decode cX8_loop 31 = .ok (.iconst 2, 1) := by decide +kernel
theorem dX8_loop_32 : decode cX8_loop 32 = .ok (.invokevirtual 93, 3) := by decide +kernel
theorem dX8_loop_35 : decode cX8_loop 35 = .ok (.if_icmp .ge 35, 3) := by decide +kernel
theorem dX8_loop_38 : decode cX8_loop 38 = .ok (.aload_n 0, 1) := by decide +kernel
theorem dX8_loop_39 : decode cX8_loop 39 = .ok (.getfield 9, 3) := by decide +kernel
theorem dX8_loop_42 : decode cX8_loop 42 = .ok (.aload_n 0, 1) := by decide +kernel
theorem dX8_loop_43 : decode cX8_loop 43 = .ok (.getfield 19, 3) := by decide +kernel
theorem dX8_loop_46 : decode cX8_loop 46 = .ok (.dup2, 1) := by decide +kernel
theorem dX8_loop_47 : decode cX8_loop 47 = .ok (.iaload, 1) := by decide +kernel
theorem dX8_loop_48 : decode cX8_loop 48 = .ok (.iconst 1, 1) := by decide +kernel
theorem dX8_loop_49 : decode cX8_loop 49 = .ok (.iadd, 1) := by decide +kernel
theorem dX8_loop_50 : decode cX8_loop 50 = .ok (.iastore, 1) := by decide +kernel
theorem dX8_loop_51 : decode cX8_loop 51 = .ok (.aload_n 0, 1) := by decide +kernel
theorem dX8_loop_52 : decode cX8_loop 52 = .ok (.aload_n 0, 1) := by decide +kernel
theorem dX8_loop_53 : decode cX8_loop 53 = .ok (.getfield 47, 3) := by decide +kernel
theorem dX8_loop_56 : decode cX8_loop 56 = .ok (.aload_n 0, 1) := by decide +kernel
theorem dX8_loop_57 : decode cX8_loop 57 = .ok (.getfield 19, 3) := by decide +kernel
theorem dX8_loop_60 : decode cX8_loop 60 = .ok (.iconst 1, 1) := by decide +kernel
theorem dX8_loop_61 : decode cX8_loop 61 = .ok (.invokevirtual 93, 3) := by decide +kernel
theorem dX8_loop_64 : decode cX8_loop 64 = .ok (.invokevirtual 59, 3) := by decide +kernel
theorem dX8_loop_67 : decode cX8_loop 67 = .ok (.goto 23, 3) := by decide +kernel
theorem dX8_loop_70 : decode cX8_loop 70 = .ok (.aload_n 0, 1) := by decide +kernel
theorem dX8_loop_71 : decode cX8_loop 71 = .ok (.getfield 9, 3) := by decide +kernel
theorem dX8_loop_74 : decode cX8_loop 74 = .ok (.aload_n 0, 1) := by decide +kernel
theorem dX8_loop_75 : decode cX8_loop 75 = .ok (.getfield 19, 3) := by decide +kernel
theorem dX8_loop_78 : decode cX8_loop 78 = .ok (.iconst 0, 1) := by decide +kernel
theorem dX8_loop_79 : decode cX8_loop 79 = .ok (.iastore, 1) := by decide +kernel
theorem dX8_loop_80 : decode cX8_loop 80 = .ok (.aload_n 0, 1) := by decide +kernel
theorem dX8_loop_81 : decode cX8_loop 81 = .ok (.aload_n 0, 1) := by decide +kernel
theorem dX8_loop_82 : decode cX8_loop 82 = .ok (.getfield 19, 3) := by decide +kernel
theorem dX8_loop_85 : decode cX8_loop 85 = .ok (.iconst 1, 1) := by decide +kernel
theorem dX8_loop_86 : decode cX8_loop 86 = .ok (.iadd, 1) := by decide +kernel
theorem dX8_loop_87 : decode cX8_loop 87 = .ok (.invokevirtual 59, 3) := by decide +kernel
theorem dX8_loop_90 : decode cX8_loop 90 = .ok (.return_, 1) := by decide +kernel
theorem dX9_init_0 : decode cX9_init 0 = .ok (.aload_n 0, 1) := by decide +kernel
theorem dX9_init_1 : decode cX9_init 1 = .ok (.invokespecial 3, 3) := by decide +kernel
theorem dX9_init_4 : decode cX9_init 4 = .ok (.aload_n 0, 1) := by decide +kernel
theorem dX9_init_5 : decode cX9_init 5 = .ok (.bipush 40, 2) := by decide +kernel
theorem dX9_init_7 : decode cX9_init 7 = .ok (.newarray .int, 2) := by decide +kernel
theorem dX9_init_9 : decode cX9_init 9 = .ok (.putfield 9, 3) := by decide +kernel
theorem dX9_init_12 : decode cX9_init 12 = .ok (.aload_n 0, 1) := by decide +kernel
theorem dX9_init_13 : decode cX9_init 13 = .ok (.iconst 0, 1) := by decide +kernel
theorem dX9_init_14 : decode cX9_init 14 = .ok (.putfield 15, 3) := by decide +kernel
theorem dX9_init_17 : decode cX9_init 17 = .ok (.aload_n 0, 1) := by decide +kernel
theorem dX9_init_18 : decode cX9_init 18 = .ok (.iconst 0, 1) := by decide +kernel
theorem dX9_init_19 : decode cX9_init 19 = .ok (.putfield 19, 3) := by decide +kernel
theorem dX9_init_22 : decode cX9_init 22 = .ok (.aload_n 0, 1) := by decide +kernel
theorem dX9_init_23 : decode cX9_init 23 = .ok (.iconst 0, 1) := by decide +kernel
theorem dX9_init_24 : decode cX9_init 24 = .ok (.putfield 22, 3) := by decide +kernel
theorem dX9_init_27 : decode cX9_init 27 = .ok (.return_, 1) := by decide +kernel
theorem dX9_renew_0 : decode cX9_renew 0 = .ok (.iconst 0, 1) := by decide +kernel
theorem dX9_renew_1 : decode cX9_renew 1 = .ok (.istore_n 3, 1) := by decide +kernel
theorem dX9_renew_2 : decode cX9_renew 2 = .ok (.iload_n 3, 1) := by decide +kernel
theorem dX9_renew_3 : decode cX9_renew 3 = .ok (.bipush 40, 2) := by decide +kernel
theorem dX9_renew_5 : decode cX9_renew 5 = .ok (.if_icmp .ge 16, 3) := by decide +kernel
theorem dX9_renew_8 : decode cX9_renew 8 = .ok (.aload_n 0, 1) := by decide +kernel
theorem dX9_renew_9 : decode cX9_renew 9 = .ok (.getfield 9, 3) := by decide +kernel
theorem dX9_renew_12 : decode cX9_renew 12 = .ok (.iload_n 3, 1) := by decide +kernel
theorem dX9_renew_13 : decode cX9_renew 13 = .ok (.iconst 0, 1) := by decide +kernel
theorem dX9_renew_14 : decode cX9_renew 14 = .ok (.iastore, 1) := by decide +kernel
theorem dX9_renew_15 : decode cX9_renew 15 = .ok (.iinc 3 1, 3) := by decide +kernel
theorem dX9_renew_18 : decode cX9_renew 18 = .ok (.goto (-16), 3) := by decide +kernel
theorem dX9_renew_21 : decode cX9_renew 21 = .ok (.aload_n 0, 1) := by decide +kernel
theorem dX9_renew_22 : decode cX9_renew 22 = .ok (.iconst 1, 1) := by decide +kernel
theorem dX9_renew_23 : decode cX9_renew 23 = .ok (.putfield 22, 3) := by decide +kernel
theorem dX9_renew_26 : decode cX9_renew 26 = .ok (.aload_n 0, 1) := by decide +kernel
theorem dX9_renew_27 : decode cX9_renew 27 = .ok (.iload_n 1, 1) := by decide +kernel
theorem dX9_renew_28 : decode cX9_renew 28 = .ok (.putfield 19, 3) := by decide +kernel
theorem dX9_renew_31 : decode cX9_renew 31 = .ok (.aload_n 0, 1) := by decide +kernel
theorem dX9_renew_32 : decode cX9_renew 32 = .ok (.iload_n 2, 1) := by decide +kernel
theorem dX9_renew_33 : decode cX9_renew 33 = .ok (.putfield 15, 3) := by decide +kernel
theorem dX9_renew_36 : decode cX9_renew 36 = .ok (.return_, 1) := by decide +kernel
theorem dX9_faultAs_0 : decode cX9_faultAs 0 = .ok (.aload_n 0, 1) := by decide +kernel
theorem dX9_faultAs_1 : decode cX9_faultAs 1 = .ok (.getfield 22, 3) := by decide +kernel
theorem dX9_faultAs_4 : decode cX9_faultAs 4 = .ok (.ifCond .ne 5, 3) := by decide +kernel
theorem dX9_faultAs_7 : decode cX9_faultAs 7 = .ok (.iconst 1, 1) := by decide +kernel
theorem dX9_faultAs_8 : decode cX9_faultAs 8 = .ok (.ireturn, 1) := by decide +kernel
theorem dX9_faultAs_9 : decode cX9_faultAs 9 = .ok (.aload_n 0, 1) := by decide +kernel
theorem dX9_faultAs_10 : decode cX9_faultAs 10 = .ok (.getfield 19, 3) := by decide +kernel
theorem dX9_faultAs_13 : decode cX9_faultAs 13 = .ok (.iload_n 1, 1) := by decide +kernel
theorem dX9_faultAs_14 : decode cX9_faultAs 14 = .ok (.if_icmp .ne 7, 3) := by decide +kernel
theorem dX9_faultAs_17 : decode cX9_faultAs 17 = .ok (.iconst 0, 1) := by decide +kernel
theorem dX9_faultAs_18 : decode cX9_faultAs 18 = .ok (.goto 4, 3) := by decide +kernel
theorem dX9_faultAs_21 : decode cX9_faultAs 21 = .ok (.iconst 2, 1) := by decide +kernel
theorem dX9_faultAs_22 : decode cX9_faultAs 22 = .ok (.ireturn, 1) := by decide +kernel
theorem dX9_faultFrom_0 : decode cX9_faultFrom 0 = .ok (.iload_n 1, 1) := by decide +kernel
theorem dX9_faultFrom_1 : decode cX9_faultFrom 1 = .ok (.ifCond .lt 26, 3) := by decide +kernel
theorem dX9_faultFrom_4 : decode cX9_faultFrom 4 = .ok (.lload_n 2, 1) := by decide +kernel
theorem dX9_faultFrom_5 : decode cX9_faultFrom 5 = .ok (.lconst 0, 1) := by decide +kernel
theorem dX9_faultFrom_6 : decode cX9_faultFrom 6 = .ok (.lcmp, 1) := by decide +kernel
theorem dX9_faultFrom_7 : decode cX9_faultFrom 7 = .ok (.ifCond .lt 20, 3) := by decide +kernel
theorem dX9_faultFrom_10 : decode cX9_faultFrom 10 = .ok (.iload_n 1, 1) := by decide +kernel
theorem dX9_faultFrom_11 : decode cX9_faultFrom 11 = .ok (.i2l, 1) := by decide +kernel
theorem dX9_faultFrom_12 : decode cX9_faultFrom 12 = .ok (.lload_n 2, 1) := by decide +kernel
theorem dX9_faultFrom_13 : decode cX9_faultFrom 13 = .ok (.ladd, 1) := by decide +kernel
theorem dX9_faultFrom_14 : decode cX9_faultFrom 14 = .ok (.aload_n 0, 1) := by decide +kernel
theorem dX9_faultFrom_15 : decode cX9_faultFrom 15 = .ok (.getfield 15, 3) := by decide +kernel
theorem dX9_faultFrom_18 : decode cX9_faultFrom 18 = .ok (.i2l, 1) := by decide +kernel
theorem dX9_faultFrom_19 : decode cX9_faultFrom 19 = .ok (.lcmp, 1) := by decide +kernel
theorem dX9_faultFrom_20 : decode cX9_faultFrom 20 = .ok (.ifCond .gt 7, 3) := by decide +kernel
theorem dX9_faultFrom_23 : decode cX9_faultFrom 23 = .ok (.iconst 0, 1) := by decide +kernel
theorem dX9_faultFrom_24 : decode cX9_faultFrom 24 = .ok (.goto 4, 3) := by decide +kernel
theorem dX9_faultFrom_27 : decode cX9_faultFrom 27 = .ok (.iconst 3, 1) := by decide +kernel
theorem dX9_faultFrom_28 : decode cX9_faultFrom 28 = .ok (.ireturn, 1) := by decide +kernel
theorem dX9_cell_0 : decode cX9_cell 0 = .ok (.iload_n 1, 1) := by decide +kernel
theorem dX9_cell_1 : decode cX9_cell 1 = .ok (.iconst 0, 1) := by decide +kernel
theorem dX9_cell_2 : decode cX9_cell 2 = .ok (.bipush 39, 2) := by decide +kernel
theorem dX9_cell_4 : decode cX9_cell 4 = .ok (.invokestatic 26, 3) := by decide +kernel
theorem dX9_cell_7 : decode cX9_cell 7 = .ok (.ifCond .eq 12, 3) := by decide +kernel
theorem dX9_cell_10 : decode cX9_cell 10 = .ok (.aload_n 0, 1) := by decide +kernel
theorem dX9_cell_11 : decode cX9_cell 11 = .ok (.getfield 9, 3) := by decide +kernel
theorem dX9_cell_14 : decode cX9_cell 14 = .ok (.iload_n 1, 1) := by decide +kernel
theorem dX9_cell_15 : decode cX9_cell 15 = .ok (.iaload, 1) := by decide +kernel
theorem dX9_cell_16 : decode cX9_cell 16 = .ok (.goto 4, 3) := by decide +kernel
theorem dX9_cell_19 : decode cX9_cell 19 = .ok (.iconst 0, 1) := by decide +kernel
theorem dX9_cell_20 : decode cX9_cell 20 = .ok (.ireturn, 1) := by decide +kernel
theorem dX9_write_0 : decode cX9_write 0 = .ok (.iload_n 1, 1) := by decide +kernel
theorem dX9_write_1 : decode cX9_write 1 = .ok (.iconst 0, 1) := by decide +kernel
theorem dX9_write_2 : decode cX9_write 2 = .ok (.bipush 39, 2) := by decide +kernel
theorem dX9_write_4 : decode cX9_write 4 = .ok (.invokestatic 26, 3) := by decide +kernel
theorem dX9_write_7 : decode cX9_write 7 = .ok (.ifCond .eq 35, 3) := by decide +kernel
theorem dX9_write_10 : decode cX9_write 10 = .ok (.aload_n 0, 1) := by decide +kernel
theorem dX9_write_11 : decode cX9_write 11 = .ok (.getfield 9, 3) := by decide +kernel
theorem dX9_write_14 : decode cX9_write 14 = .ok (.iload_n 1, 1) := by decide +kernel
theorem dX9_write_15 : decode cX9_write 15 = .ok (.aload_n 0, 1) := by decide +kernel
theorem dX9_write_16 : decode cX9_write 16 = .ok (.getfield 19, 3) := by decide +kernel
theorem dX9_write_19 : decode cX9_write 19 = .ok (.ifCond .ne 8, 3) := by decide +kernel
theorem dX9_write_22 : decode cX9_write 22 = .ok (.iload_n 2, 1) := by decide +kernel
theorem dX9_write_23 : decode cX9_write 23 = .ok (.i2b, 1) := by decide +kernel
theorem dX9_write_24 : decode cX9_write 24 = .ok (.goto 17, 3) := by decide +kernel
theorem dX9_write_27 : decode cX9_write 27 = .ok (.aload_n 0, 1) := by decide +kernel
theorem dX9_write_28 : decode cX9_write 28 = .ok (.getfield 19, 3) := by decide +kernel
theorem dX9_write_31 : decode cX9_write 31 = .ok (.iconst 1, 1) := by decide +kernel
theorem dX9_write_32 : decode cX9_write 32 = .ok (.if_icmp .ne 8, 3) := by decide +kernel
theorem dX9_write_35 : decode cX9_write 35 = .ok (.iload_n 2, 1) := by decide +kernel
theorem dX9_write_36 : decode cX9_write 36 = .ok (.i2s, 1) := by decide +kernel
theorem dX9_write_37 : decode cX9_write 37 = .ok (.goto 4, 3) := by decide +kernel
theorem dX9_write_40 : decode cX9_write 40 = .ok (.iload_n 2, 1) := by decide +kernel
theorem dX9_write_41 : decode cX9_write 41 = .ok (.iastore, 1) := by decide +kernel
theorem dX9_write_42 : decode cX9_write 42 = .ok (.return_, 1) := by decide +kernel
theorem dX10_init_0 : decode cX10_init 0 = .ok (.aload_n 0, 1) := by decide +kernel
theorem dX10_init_1 : decode cX10_init 1 = .ok (.invokespecial 3, 3) := by decide +kernel
theorem dX10_init_4 : decode cX10_init 4 = .ok (.aload_n 0, 1) := by decide +kernel
theorem dX10_init_5 : decode cX10_init 5 = .ok (.bipush 20, 2) := by decide +kernel
theorem dX10_init_7 : decode cX10_init 7 = .ok (.newarray .int, 2) := by decide +kernel
theorem dX10_init_9 : decode cX10_init 9 = .ok (.putfield 9, 3) := by decide +kernel
theorem dX10_init_12 : decode cX10_init 12 = .ok (.aload_n 0, 1) := by decide +kernel
theorem dX10_init_13 : decode cX10_init 13 = .ok (.bipush 20, 2) := by decide +kernel
theorem dX10_init_15 : decode cX10_init 15 = .ok (.newarray .int, 2) := by decide +kernel
theorem dX10_init_17 : decode cX10_init 17 = .ok (.putfield 15, 3) := by decide +kernel
theorem dX10_init_20 : decode cX10_init 20 = .ok (.aload_n 0, 1) := by decide +kernel
theorem dX10_init_21 : decode cX10_init 21 = .ok (.bipush 20, 2) := by decide +kernel
theorem dX10_init_23 : decode cX10_init 23 = .ok (.newarray .int, 2) := by decide +kernel
theorem dX10_init_25 : decode cX10_init 25 = .ok (.putfield 18, 3) := by decide +kernel
theorem dX10_init_28 : decode cX10_init 28 = .ok (.aload_n 0, 1) := by decide +kernel
theorem dX10_init_29 : decode cX10_init 29 = .ok (.bipush 20, 2) := by decide +kernel
theorem dX10_init_31 : decode cX10_init 31 = .ok (.newarray .int, 2) := by decide +kernel
theorem dX10_init_33 : decode cX10_init 33 = .ok (.putfield 21, 3) := by decide +kernel
theorem dX10_init_36 : decode cX10_init 36 = .ok (.aload_n 0, 1) := by decide +kernel
theorem dX10_init_37 : decode cX10_init 37 = .ok (.iconst 0, 1) := by decide +kernel
theorem dX10_init_38 : decode cX10_init 38 = .ok (.putfield 24, 3) := by decide +kernel
theorem dX10_init_41 : decode cX10_init 41 = .ok (.return_, 1) := by decide +kernel
theorem dX10_add_0 : decode cX10_add 0 = .ok (.aload_n 0, 1) := by decide +kernel
theorem dX10_add_1 : decode cX10_add 1 = .ok (.getfield 24, 3) := by decide +kernel
theorem dX10_add_4 : decode cX10_add 4 = .ok (.iconst 0, 1) := by decide +kernel
theorem dX10_add_5 : decode cX10_add 5 = .ok (.bipush 19, 2) := by decide +kernel
theorem dX10_add_7 : decode cX10_add 7 = .ok (.invokestatic 28, 3) := by decide +kernel
theorem dX10_add_10 : decode cX10_add 10 = .ok (.ifCond .eq 54, 3) := by decide +kernel
theorem dX10_add_13 : decode cX10_add 13 = .ok (.aload_n 0, 1) := by decide +kernel
theorem dX10_add_14 : decode cX10_add 14 = .ok (.getfield 9, 3) := by decide +kernel
theorem dX10_add_17 : decode cX10_add 17 = .ok (.aload_n 0, 1) := by decide +kernel
theorem dX10_add_18 : decode cX10_add 18 = .ok (.getfield 24, 3) := by decide +kernel
theorem dX10_add_21 : decode cX10_add 21 = .ok (.iload_n 1, 1) := by decide +kernel
theorem dX10_add_22 : decode cX10_add 22 = .ok (.iastore, 1) := by decide +kernel
theorem dX10_add_23 : decode cX10_add 23 = .ok (.aload_n 0, 1) := by decide +kernel
theorem dX10_add_24 : decode cX10_add 24 = .ok (.getfield 15, 3) := by decide +kernel
theorem dX10_add_27 : decode cX10_add 27 = .ok (.aload_n 0, 1) := by decide +kernel
theorem dX10_add_28 : decode cX10_add 28 = .ok (.getfield 24, 3) := by decide +kernel
theorem dX10_add_31 : decode cX10_add 31 = .ok (.iload_n 2, 1) := by decide +kernel
theorem dX10_add_32 : decode cX10_add 32 = .ok (.iastore, 1) := by decide +kernel
theorem dX10_add_33 : decode cX10_add 33 = .ok (.aload_n 0, 1) := by decide +kernel
theorem dX10_add_34 : decode cX10_add 34 = .ok (.getfield 18, 3) := by decide +kernel
theorem dX10_add_37 : decode cX10_add 37 = .ok (.aload_n 0, 1) := by decide +kernel
theorem dX10_add_38 : decode cX10_add 38 = .ok (.getfield 24, 3) := by decide +kernel
theorem dX10_add_41 : decode cX10_add 41 = .ok (.iload_n 3, 1) := by decide +kernel
theorem dX10_add_42 : decode cX10_add 42 = .ok (.iastore, 1) := by decide +kernel
theorem dX10_add_43 : decode cX10_add 43 = .ok (.aload_n 0, 1) := by decide +kernel
theorem dX10_add_44 : decode cX10_add 44 = .ok (.getfield 21, 3) := by decide +kernel
theorem dX10_add_47 : decode cX10_add 47 = .ok (.aload_n 0, 1) := by decide +kernel
theorem dX10_add_48 : decode cX10_add 48 = .ok (.getfield 24, 3) := by decide +kernel
theorem dX10_add_51 : decode cX10_add 51 = .ok (.iload 4, 2) := by decide +kernel
theorem dX10_add_53 : decode cX10_add 53 = .ok (.iastore, 1) := by decide +kernel
theorem dX10_add_54 : decode cX10_add 54 = .ok (.aload_n 0, 1) := by decide +kernel
theorem dX10_add_55 : decode cX10_add 55 = .ok (.dup, 1) := by decide +kernel
theorem dX10_add_56 : decode cX10_add 56 = .ok (.getfield 24, 3) := by decide +kernel
theorem dX10_add_59 : decode cX10_add 59 = .ok (.iconst 1, 1) := by decide +kernel
theorem dX10_add_60 : decode cX10_add 60 = .ok (.iadd, 1) := by decide +kernel
theorem dX10_add_61 : decode cX10_add 61 = .ok (.putfield 24, 3) := by decide +kernel
theorem dX10_add_64 : decode cX10_add 64 = .ok (.return_, 1) := by decide +kernel
theorem dX10_covers_0 : decode cX10_covers 0 = .ok (.iconst 0, 1) := by decide +kernel
theorem dX10_covers_1 : decode cX10_covers 1 = .ok (.istore_n 3, 1) := by decide +kernel
theorem dX10_covers_2 : decode cX10_covers 2 = .ok (.iload_n 3, 1) := by decide +kernel
theorem dX10_covers_3 : decode cX10_covers 3 = .ok (.aload_n 0, 1) := by decide +kernel
theorem dX10_covers_4 : decode cX10_covers 4 = .ok (.getfield 24, 3) := by decide +kernel
theorem dX10_covers_7 : decode cX10_covers 7 = .ok (.if_icmp .ge 47, 3) := by decide +kernel
theorem dX10_covers_10 : decode cX10_covers 10 = .ok (.iload_n 3, 1) := by decide +kernel
theorem dX10_covers_11 : decode cX10_covers 11 = .ok (.bipush 20, 2) := by decide +kernel
theorem dX10_covers_13 : decode cX10_covers 13 = .ok (.if_icmp .ge 41, 3) := by decide +kernel
theorem dX10_covers_16 : decode cX10_covers 16 = .ok (.aload_n 0, 1) := by decide +kernel
theorem dX10_covers_17 : decode cX10_covers 17 = .ok (.getfield 9, 3) := by decide +kernel
theorem dX10_covers_20 : decode cX10_covers 20 = .ok (.iload_n 3, 1) := by decide +kernel
theorem dX10_covers_21 : decode cX10_covers 21 = .ok (.iaload, 1) := by decide +kernel
theorem dX10_covers_22 : decode cX10_covers 22 = .ok (.iload_n 1, 1) := by decide +kernel
theorem dX10_covers_23 : decode cX10_covers 23 = .ok (.if_icmp .ne 25, 3) := by decide +kernel
theorem dX10_covers_26 : decode cX10_covers 26 = .ok (.aload_n 0, 1) := by decide +kernel
theorem dX10_covers_27 : decode cX10_covers 27 = .ok (.getfield 15, 3) := by decide +kernel
theorem dX10_covers_30 : decode cX10_covers 30 = .ok (.iload_n 3, 1) := by decide +kernel
theorem dX10_covers_31 : decode cX10_covers 31 = .ok (.iaload, 1) := by decide +kernel
theorem dX10_covers_32 : decode cX10_covers 32 = .ok (.iload_n 2, 1) := by decide +kernel
theorem dX10_covers_33 : decode cX10_covers 33 = .ok (.if_icmp .gt 15, 3) := by decide +kernel
theorem dX10_covers_36 : decode cX10_covers 36 = .ok (.iload_n 2, 1) := by decide +kernel
theorem dX10_covers_37 : decode cX10_covers 37 = .ok (.aload_n 0, 1) := by decide +kernel
theorem dX10_covers_38 : decode cX10_covers 38 = .ok (.getfield 18, 3) := by decide +kernel
theorem dX10_covers_41 : decode cX10_covers 41 = .ok (.iload_n 3, 1) := by decide +kernel
theorem dX10_covers_42 : decode cX10_covers 42 = .ok (.iaload, 1) := by decide +kernel
theorem dX10_covers_43 : decode cX10_covers 43 = .ok (.if_icmp .gt 5, 3) := by decide +kernel
theorem dX10_covers_46 : decode cX10_covers 46 = .ok (.iconst 1, 1) := by decide +kernel
theorem dX10_covers_47 : decode cX10_covers 47 = .ok (.ireturn, 1) := by decide +kernel
theorem dX10_covers_48 : decode cX10_covers 48 = .ok (.iinc 3 1, 3) := by decide +kernel
theorem dX10_covers_51 : decode cX10_covers 51 = .ok (.goto (-49), 3) := by decide +kernel
theorem dX10_covers_54 : decode cX10_covers 54 = .ok (.iconst 0, 1) := by decide +kernel
theorem dX10_covers_55 : decode cX10_covers 55 = .ok (.ireturn, 1) := by decide +kernel
theorem dX10_apply_0 : decode cX10_apply 0 = .ok (.aload_n 0, 1) := by decide +kernel
theorem dX10_apply_1 : decode cX10_apply 1 = .ok (.getfield 24, 3) := by decide +kernel
theorem dX10_apply_4 : decode cX10_apply 4 = .ok (.bipush 20, 2) := by decide +kernel
theorem dX10_apply_6 : decode cX10_apply 6 = .ok (.invokestatic 32, 3) := by decide +kernel
theorem dX10_apply_9 : decode cX10_apply 9 = .ok (.iconst 1, 1) := by decide +kernel
theorem dX10_apply_10 : decode cX10_apply 10 = .ok (.isub, 1) := by decide +kernel
theorem dX10_apply_11 : decode cX10_apply 11 = .ok (.istore 4, 2) := by decide +kernel
theorem dX10_apply_13 : decode cX10_apply 13 = .ok (.iload 4, 2) := by decide +kernel
theorem dX10_apply_15 : decode cX10_apply 15 = .ok (.ifCond .lt 53, 3) := by decide +kernel
theorem dX10_apply_18 : decode cX10_apply 18 = .ok (.aload_n 0, 1) := by decide +kernel
theorem dX10_apply_19 : decode cX10_apply 19 = .ok (.getfield 9, 3) := by decide +kernel
theorem dX10_apply_22 : decode cX10_apply 22 = .ok (.iload 4, 2) := by decide +kernel
theorem dX10_apply_24 : decode cX10_apply 24 = .ok (.iaload, 1) := by decide +kernel
theorem dX10_apply_25 : decode cX10_apply 25 = .ok (.iload_n 1, 1) := by decide +kernel
theorem dX10_apply_26 : decode cX10_apply 26 = .ok (.if_icmp .ne 36, 3) := by decide +kernel
theorem dX10_apply_29 : decode cX10_apply 29 = .ok (.aload_n 0, 1) := by decide +kernel
theorem dX10_apply_30 : decode cX10_apply 30 = .ok (.getfield 15, 3) := by decide +kernel
theorem dX10_apply_33 : decode cX10_apply 33 = .ok (.iload 4, 2) := by decide +kernel
theorem dX10_apply_35 : decode cX10_apply 35 = .ok (.iaload, 1) := by decide +kernel
theorem dX10_apply_36 : decode cX10_apply 36 = .ok (.iload_n 2, 1) := by decide +kernel
theorem dX10_apply_37 : decode cX10_apply 37 = .ok (.if_icmp .gt 25, 3) := by decide +kernel
theorem dX10_apply_40 : decode cX10_apply 40 = .ok (.iload_n 3, 1) := by decide +kernel
theorem dX10_apply_41 : decode cX10_apply 41 = .ok (.aload_n 0, 1) := by decide +kernel
theorem dX10_apply_42 : decode cX10_apply 42 = .ok (.getfield 18, 3) := by decide +kernel
theorem dX10_apply_45 : decode cX10_apply 45 = .ok (.iload 4, 2) := by decide +kernel
theorem dX10_apply_47 : decode cX10_apply 47 = .ok (.iaload, 1) := by decide +kernel
theorem dX10_apply_48 : decode cX10_apply 48 = .ok (.imul, 1) := by decide +kernel
theorem dX10_apply_49 : decode cX10_apply 49 = .ok (.sipush 1000, 3) := by decide +kernel
theorem dX10_apply_52 : decode cX10_apply 52 = .ok (.idiv, 1) := by decide +kernel
theorem dX10_apply_53 : decode cX10_apply 53 = .ok (.aload_n 0, 1) := by decide +kernel
theorem dX10_apply_54 : decode cX10_apply 54 = .ok (.getfield 21, 3) := by decide +kernel
theorem dX10_apply_57 : decode cX10_apply 57 = .ok (.iload 4, 2) := by decide +kernel
theorem dX10_apply_59 : decode cX10_apply 59 = .ok (.iaload, 1) := by decide +kernel
theorem dX10_apply_60 : decode cX10_apply 60 = .ok (.iadd, 1) := by decide +kernel
theorem dX10_apply_61 : decode cX10_apply 61 = .ok (.ireturn, 1) := by decide +kernel
theorem dX10_apply_62 : decode cX10_apply 62 = .ok (.iinc 4 (-1), 3) := by decide +kernel
theorem dX10_apply_65 : decode cX10_apply 65 = .ok (.goto (-52), 3) := by decide +kernel
theorem dX10_apply_68 : decode cX10_apply 68 = .ok (.iload_n 3, 1) := by decide +kernel
theorem dX10_apply_69 : decode cX10_apply 69 = .ok (.ireturn, 1) := by decide +kernel
theorem dX11_init_0 : decode cX11_init 0 = .ok (.aload_n 0, 1) := by decide +kernel
theorem dX11_init_1 : decode cX11_init 1 = .ok (.invokespecial 3, 3) := by decide +kernel
theorem dX11_init_4 : decode cX11_init 4 = .ok (.aload_n 0, 1) := by decide +kernel
theorem dX11_init_5 : decode cX11_init 5 = .ok (.iconst 0, 1) := by decide +kernel
theorem dX11_init_6 : decode cX11_init 6 = .ok (.putfield 11, 3) := by decide +kernel
theorem dX11_init_9 : decode cX11_init 9 = .ok (.aload_n 0, 1) := by decide +kernel
theorem dX11_init_10 : decode cX11_init 10 = .ok (.new 15, 3) := by decide +kernel
theorem dX11_init_13 : decode cX11_init 13 = .ok (.dup, 1) := by decide +kernel
theorem dX11_init_14 : decode cX11_init 14 = .ok (.invokespecial 17, 3) := by decide +kernel
theorem dX11_init_17 : decode cX11_init 17 = .ok (.putfield 18, 3) := by decide +kernel
theorem dX11_init_20 : decode cX11_init 20 = .ok (.aload_n 0, 1) := by decide +kernel
theorem dX11_init_21 : decode cX11_init 21 = .ok (.new 22, 3) := by decide +kernel
theorem dX11_init_24 : decode cX11_init 24 = .ok (.dup, 1) := by decide +kernel
theorem dX11_init_25 : decode cX11_init 25 = .ok (.invokespecial 24, 3) := by decide +kernel
theorem dX11_init_28 : decode cX11_init 28 = .ok (.putfield 25, 3) := by decide +kernel
theorem dX11_init_31 : decode cX11_init 31 = .ok (.aload_n 0, 1) := by decide +kernel
theorem dX11_init_32 : decode cX11_init 32 = .ok (.new 29, 3) := by decide +kernel
theorem dX11_init_35 : decode cX11_init 35 = .ok (.dup, 1) := by decide +kernel
theorem dX11_init_36 : decode cX11_init 36 = .ok (.aload_n 0, 1) := by decide +kernel
theorem dX11_init_37 : decode cX11_init 37 = .ok (.getfield 18, 3) := by decide +kernel
theorem dX11_init_40 : decode cX11_init 40 = .ok (.invokespecial 31, 3) := by decide +kernel
theorem dX11_init_43 : decode cX11_init 43 = .ok (.putfield 34, 3) := by decide +kernel
theorem dX11_init_46 : decode cX11_init 46 = .ok (.aload_n 0, 1) := by decide +kernel
theorem dX11_init_47 : decode cX11_init 47 = .ok (.new 38, 3) := by decide +kernel
theorem dX11_init_50 : decode cX11_init 50 = .ok (.dup, 1) := by decide +kernel
theorem dX11_init_51 : decode cX11_init 51 = .ok (.invokespecial 40, 3) := by decide +kernel
theorem dX11_init_54 : decode cX11_init 54 = .ok (.putfield 41, 3) := by decide +kernel
theorem dX11_init_57 : decode cX11_init 57 = .ok (.aload_n 0, 1) := by decide +kernel
theorem dX11_init_58 : decode cX11_init 58 = .ok (.new 45, 3) := by decide +kernel
theorem dX11_init_61 : decode cX11_init 61 = .ok (.dup, 1) := by decide +kernel
theorem dX11_init_62 : decode cX11_init 62 = .ok (.aload_n 0, 1) := by decide +kernel
theorem dX11_init_63 : decode cX11_init 63 = .ok (.getfield 18, 3) := by decide +kernel
theorem dX11_init_66 : decode cX11_init 66 = .ok (.aload_n 0, 1) := by decide +kernel
theorem dX11_init_67 : decode cX11_init 67 = .ok (.getfield 25, 3) := by decide +kernel
theorem dX11_init_70 : decode cX11_init 70 = .ok (.aload_n 0, 1) := by decide +kernel
theorem dX11_init_71 : decode cX11_init 71 = .ok (.getfield 34, 3) := by decide +kernel
theorem dX11_init_74 : decode cX11_init 74 = .ok (.aload_n 0, 1) := by decide +kernel
theorem dX11_init_75 : decode cX11_init 75 = .ok (.getfield 41, 3) := by decide +kernel
theorem dX11_init_78 : decode cX11_init 78 = .ok (.invokespecial 47, 3) := by decide +kernel
theorem dX11_init_81 : decode cX11_init 81 = .ok (.putfield 50, 3) := by decide +kernel
theorem dX11_init_84 : decode cX11_init 84 = .ok (.aload_n 0, 1) := by decide +kernel
theorem dX11_init_85 : decode cX11_init 85 = .ok (.new 54, 3) := by decide +kernel
theorem dX11_init_88 : decode cX11_init 88 = .ok (.dup, 1) := by decide +kernel
theorem dX11_init_89 : decode cX11_init 89 = .ok (.aload_n 0, 1) := by decide +kernel
theorem dX11_init_90 : decode cX11_init 90 = .ok (.getfield 18, 3) := by decide +kernel
theorem dX11_init_93 : decode cX11_init 93 = .ok (.aload_n 0, 1) := by decide +kernel
theorem dX11_init_94 : decode cX11_init 94 = .ok (.getfield 34, 3) := by decide +kernel
theorem dX11_init_97 : decode cX11_init 97 = .ok (.aload_n 0, 1) := by decide +kernel
theorem dX11_init_98 : decode cX11_init 98 = .ok (.getfield 41, 3) := by decide +kernel
theorem dX11_init_101 : decode cX11_init 101 = .ok (.invokespecial 56, 3) := by decide +kernel
theorem dX11_init_104 : decode cX11_init 104 = .ok (.putfield 59, 3) := by decide +kernel
theorem dX11_init_107 : decode cX11_init 107 = .ok (.aload_n 0, 1) := by decide +kernel
theorem dX11_init_108 : decode cX11_init 108 = .ok (.new 63, 3) := by decide +kernel
theorem dX11_init_111 : decode cX11_init 111 = .ok (.dup, 1) := by decide +kernel
theorem dX11_init_112 : decode cX11_init 112 = .ok (.aload_n 0, 1) := by decide +kernel
theorem dX11_init_113 : decode cX11_init 113 = .ok (.getfield 18, 3) := by decide +kernel
theorem dX11_init_116 : decode cX11_init 116 = .ok (.aload_n 0, 1) := by decide +kernel
theorem dX11_init_117 : decode cX11_init 117 = .ok (.getfield 34, 3) := by decide +kernel
theorem dX11_init_120 : decode cX11_init 120 = .ok (.invokespecial 65, 3) := by decide +kernel
theorem dX11_init_123 : decode cX11_init 123 = .ok (.putfield 68, 3) := by decide +kernel
theorem dX11_init_126 : decode cX11_init 126 = .ok (.aload_n 0, 1) := by decide +kernel
theorem dX11_init_127 : decode cX11_init 127 = .ok (.new 72, 3) := by decide +kernel
theorem dX11_init_130 : decode cX11_init 130 = .ok (.dup, 1) := by decide +kernel
theorem dX11_init_131 : decode cX11_init 131 = .ok (.invokespecial 74, 3) := by decide +kernel
theorem dX11_init_134 : decode cX11_init 134 = .ok (.putfield 75, 3) := by decide +kernel
theorem dX11_init_137 : decode cX11_init 137 = .ok (.aload_n 0, 1) := by decide +kernel
theorem dX11_init_138 : decode cX11_init 138 = .ok (.iconst 4, 1) := by decide +kernel
theorem dX11_init_139 : decode cX11_init 139 = .ok (.anewarray 79, 3) := by decide +kernel
theorem dX11_init_142 : decode cX11_init 142 = .ok (.putfield 81, 3) := by decide +kernel
theorem dX11_init_145 : decode cX11_init 145 = .ok (.iconst 0, 1) := by decide +kernel
theorem dX11_init_146 : decode cX11_init 146 = .ok (.istore_n 1, 1) := by decide +kernel
theorem dX11_init_147 : decode cX11_init 147 = .ok (.iload_n 1, 1) := by decide +kernel
theorem dX11_init_148 : decode cX11_init 148 = .ok (.iconst 4, 1) := by decide +kernel
theorem dX11_init_149 : decode cX11_init 149 = .ok (.if_icmp .ge 22, 3) := by decide +kernel
theorem dX11_init_152 : decode cX11_init 152 = .ok (.aload_n 0, 1) := by decide +kernel
theorem dX11_init_153 : decode cX11_init 153 = .ok (.getfield 81, 3) := by decide +kernel
theorem dX11_init_156 : decode cX11_init 156 = .ok (.iload_n 1, 1) := by decide +kernel
theorem dX11_init_157 : decode cX11_init 157 = .ok (.new 79, 3) := by decide +kernel
theorem dX11_init_160 : decode cX11_init 160 = .ok (.dup, 1) := by decide +kernel
theorem dX11_init_161 : decode cX11_init 161 = .ok (.invokespecial 85, 3) := by decide +kernel
theorem dX11_init_164 : decode cX11_init 164 = .ok (.aastore, 1) := by decide +kernel
theorem dX11_init_165 : decode cX11_init 165 = .ok (.iinc 1 1, 3) := by decide +kernel
theorem dX11_init_168 : decode cX11_init 168 = .ok (.goto (-21), 3) := by decide +kernel
theorem dX11_init_171 : decode cX11_init 171 = .ok (.return_, 1) := by decide +kernel
theorem dX11_map_0 : decode cX11_map 0 = .ok (.iload_n 1, 1) := by decide +kernel
theorem dX11_map_1 : decode cX11_map 1 = .ok (.iconst 0, 1) := by decide +kernel
theorem dX11_map_2 : decode cX11_map 2 = .ok (.bipush 24, 2) := by decide +kernel
theorem dX11_map_4 : decode cX11_map 4 = .ok (.invokestatic 86, 3) := by decide +kernel
theorem dX11_map_7 : decode cX11_map 7 = .ok (.ifCond .ne 5, 3) := by decide +kernel
theorem dX11_map_10 : decode cX11_map 10 = .ok (.iconst (-1), 1) := by decide +kernel
theorem dX11_map_11 : decode cX11_map 11 = .ok (.ireturn, 1) := by decide +kernel
theorem dX11_map_12 : decode cX11_map 12 = .ok (.iload_n 2, 1) := by decide +kernel
theorem dX11_map_13 : decode cX11_map 13 = .ok (.sipush (-500), 3) := by decide +kernel
theorem dX11_map_16 : decode cX11_map 16 = .ok (.sipush 1000, 3) := by decide +kernel
theorem dX11_map_19 : decode cX11_map 19 = .ok (.invokestatic 86, 3) := by decide +kernel
theorem dX11_map_22 : decode cX11_map 22 = .ok (.ifCond .ne 6, 3) := by decide +kernel
theorem dX11_map_25 : decode cX11_map 25 = .ok (.bipush (-2), 2) := by decide +kernel
theorem dX11_map_27 : decode cX11_map 27 = .ok (.ireturn, 1) := by decide +kernel
theorem dX11_map_28 : decode cX11_map 28 = .ok (.aload_n 0, 1) := by decide +kernel
theorem dX11_map_29 : decode cX11_map 29 = .ok (.getfield 50, 3) := by decide +kernel
theorem dX11_map_32 : decode cX11_map 32 = .ok (.invokevirtual 90, 3) := by decide +kernel
theorem dX11_map_35 : decode cX11_map 35 = .ok (.ifCond .ne 6, 3) := by decide +kernel
theorem dX11_map_38 : decode cX11_map 38 = .ok (.bipush (-3), 2) := by decide +kernel
theorem dX11_map_40 : decode cX11_map 40 = .ok (.ireturn, 1) := by decide +kernel
theorem dX11_map_41 : decode cX11_map 41 = .ok (.aload_n 0, 1) := by decide +kernel
theorem dX11_map_42 : decode cX11_map 42 = .ok (.getfield 18, 3) := by decide +kernel
theorem dX11_map_45 : decode cX11_map 45 = .ok (.iload_n 1, 1) := by decide +kernel
theorem dX11_map_46 : decode cX11_map 46 = .ok (.invokevirtual 94, 3) := by decide +kernel
theorem dX11_map_49 : decode cX11_map 49 = .ok (.istore_n 3, 1) := by decide +kernel
theorem dX11_map_50 : decode cX11_map 50 = .ok (.aload_n 0, 1) := by decide +kernel
theorem dX11_map_51 : decode cX11_map 51 = .ok (.getfield 18, 3) := by decide +kernel
theorem dX11_map_54 : decode cX11_map 54 = .ok (.iload_n 1, 1) := by decide +kernel
theorem dX11_map_55 : decode cX11_map 55 = .ok (.iload_n 2, 1) := by decide +kernel
theorem dX11_map_56 : decode cX11_map 56 = .ok (.invokevirtual 98, 3) := by decide +kernel
theorem dX11_map_59 : decode cX11_map 59 = .ok (.iload_n 3, 1) := by decide +kernel
theorem dX11_map_60 : decode cX11_map 60 = .ok (.ireturn, 1) := by decide +kernel
theorem dX11_torque_0 : decode cX11_torque 0 = .ok (.iload_n 1, 1) := by decide +kernel
theorem dX11_torque_1 : decode cX11_torque 1 = .ok (.iconst 0, 1) := by decide +kernel
theorem dX11_torque_2 : decode cX11_torque 2 = .ok (.sipush 8000, 3) := by decide +kernel
theorem dX11_torque_5 : decode cX11_torque 5 = .ok (.invokestatic 86, 3) := by decide +kernel
theorem dX11_torque_8 : decode cX11_torque 8 = .ok (.ifCond .eq 14, 3) := by decide +kernel
theorem dX11_torque_11 : decode cX11_torque 11 = .ok (.iload_n 2, 1) := by decide +kernel
theorem dX11_torque_12 : decode cX11_torque 12 = .ok (.iconst 0, 1) := by decide +kernel
theorem dX11_torque_13 : decode cX11_torque 13 = .ok (.sipush 1000, 3) := by decide +kernel
theorem dX11_torque_16 : decode cX11_torque 16 = .ok (.invokestatic 86, 3) := by decide +kernel
theorem dX11_torque_19 : decode cX11_torque 19 = .ok (.ifCond .ne 7, 3) := by decide +kernel
theorem dX11_torque_22 : decode cX11_torque 22 = .ok (.ldc2_w 102, 3) := by decide +kernel
theorem dX11_torque_25 : decode cX11_torque 25 = .ok (.lreturn, 1) := by decide +kernel
theorem dX11_torque_26 : decode cX11_torque 26 = .ok (.aload_n 0, 1) := by decide +kernel
theorem dX11_torque_27 : decode cX11_torque 27 = .ok (.getfield 18, 3) := by decide +kernel
theorem dX11_torque_30 : decode cX11_torque 30 = .ok (.iload_n 1, 1) := by decide +kernel
theorem dX11_torque_31 : decode cX11_torque 31 = .ok (.iload_n 2, 1) := by decide +kernel
theorem dX11_torque_32 : decode cX11_torque 32 = .ok (.invokevirtual 104, 3) := by decide +kernel
theorem dX11_torque_35 : decode cX11_torque 35 = .ok (.i2l, 1) := by decide +kernel
theorem dX11_torque_36 : decode cX11_torque 36 = .ok (.lreturn, 1) := by decide +kernel
theorem dX11_lag_0 : decode cX11_lag 0 = .ok (.iload_n 1, 1) := by decide +kernel
theorem dX11_lag_1 : decode cX11_lag 1 = .ok (.iconst 1, 1) := by decide +kernel
theorem dX11_lag_2 : decode cX11_lag 2 = .ok (.bipush 20, 2) := by decide +kernel
theorem dX11_lag_4 : decode cX11_lag 4 = .ok (.invokestatic 86, 3) := by decide +kernel
theorem dX11_lag_7 : decode cX11_lag 7 = .ok (.ifCond .ne 6, 3) := by decide +kernel
theorem dX11_lag_10 : decode cX11_lag 10 = .ok (.bipush (-2), 2) := by decide +kernel
theorem dX11_lag_12 : decode cX11_lag 12 = .ok (.ireturn, 1) := by decide +kernel
theorem dX11_lag_13 : decode cX11_lag 13 = .ok (.aload_n 0, 1) := by decide +kernel
theorem dX11_lag_14 : decode cX11_lag 14 = .ok (.getfield 50, 3) := by decide +kernel
theorem dX11_lag_17 : decode cX11_lag 17 = .ok (.invokevirtual 90, 3) := by decide +kernel
theorem dX11_lag_20 : decode cX11_lag 20 = .ok (.ifCond .ne 6, 3) := by decide +kernel
theorem dX11_lag_23 : decode cX11_lag 23 = .ok (.bipush (-3), 2) := by decide +kernel
theorem dX11_lag_25 : decode cX11_lag 25 = .ok (.ireturn, 1) := by decide +kernel
theorem dX11_lag_26 : decode cX11_lag 26 = .ok (.aload_n 0, 1) := by decide +kernel
theorem dX11_lag_27 : decode cX11_lag 27 = .ok (.getfield 18, 3) := by decide +kernel
theorem dX11_lag_30 : decode cX11_lag 30 = .ok (.getfield 108, 3) := by decide +kernel
theorem dX11_lag_33 : decode cX11_lag 33 = .ok (.istore_n 2, 1) := by decide +kernel
theorem dX11_lag_34 : decode cX11_lag 34 = .ok (.aload_n 0, 1) := by decide +kernel
theorem dX11_lag_35 : decode cX11_lag 35 = .ok (.getfield 18, 3) := by decide +kernel
theorem dX11_lag_38 : decode cX11_lag 38 = .ok (.iload_n 1, 1) := by decide +kernel
theorem dX11_lag_39 : decode cX11_lag 39 = .ok (.putfield 108, 3) := by decide +kernel
theorem dX11_lag_42 : decode cX11_lag 42 = .ok (.iload_n 2, 1) := by decide +kernel
theorem dX11_lag_43 : decode cX11_lag 43 = .ok (.ireturn, 1) := by decide +kernel
theorem dX11_step_0 : decode cX11_step 0 = .ok (.aload_n 0, 1) := by decide +kernel
theorem dX11_step_1 : decode cX11_step 1 = .ok (.getfield 50, 3) := by decide +kernel
theorem dX11_step_4 : decode cX11_step 4 = .ok (.invokevirtual 90, 3) := by decide +kernel
theorem dX11_step_7 : decode cX11_step 7 = .ok (.ifCond .ne 6, 3) := by decide +kernel
theorem dX11_step_10 : decode cX11_step 10 = .ok (.bipush (-3), 2) := by decide +kernel
theorem dX11_step_12 : decode cX11_step 12 = .ok (.ireturn, 1) := by decide +kernel
theorem dX11_step_13 : decode cX11_step 13 = .ok (.aload_n 0, 1) := by decide +kernel
theorem dX11_step_14 : decode cX11_step 14 = .ok (.getfield 25, 3) := by decide +kernel
theorem dX11_step_17 : decode cX11_step 17 = .ok (.getfield 111, 3) := by decide +kernel
theorem dX11_step_20 : decode cX11_step 20 = .ok (.iload_n 1, 1) := by decide +kernel
theorem dX11_step_21 : decode cX11_step 21 = .ok (.iload_n 2, 1) := by decide +kernel
theorem dX11_step_22 : decode cX11_step 22 = .ok (.iload_n 3, 1) := by decide +kernel
theorem dX11_step_23 : decode cX11_step 23 = .ok (.iload 4, 2) := by decide +kernel
theorem dX11_step_25 : decode cX11_step 25 = .ok (.invokestatic 114, 3) := by decide +kernel
theorem dX11_step_28 : decode cX11_step 28 = .ok (.ifCond .ne 6, 3) := by decide +kernel
theorem dX11_step_31 : decode cX11_step 31 = .ok (.bipush (-2), 2) := by decide +kernel
theorem dX11_step_33 : decode cX11_step 33 = .ok (.ireturn, 1) := by decide +kernel
theorem dX11_step_34 : decode cX11_step 34 = .ok (.aload_n 0, 1) := by decide +kernel
theorem dX11_step_35 : decode cX11_step 35 = .ok (.getfield 25, 3) := by decide +kernel
theorem dX11_step_38 : decode cX11_step 38 = .ok (.getfield 111, 3) := by decide +kernel
theorem dX11_step_41 : decode cX11_step 41 = .ok (.bipush 30, 2) := by decide +kernel
theorem dX11_step_43 : decode cX11_step 43 = .ok (.if_icmp .lt 6, 3) := by decide +kernel
theorem dX11_step_46 : decode cX11_step 46 = .ok (.bipush (-4), 2) := by decide +kernel
theorem dX11_step_48 : decode cX11_step 48 = .ok (.ireturn, 1) := by decide +kernel
theorem dX11_step_49 : decode cX11_step 49 = .ok (.aload_n 0, 1) := by decide +kernel
theorem dX11_step_50 : decode cX11_step 50 = .ok (.getfield 25, 3) := by decide +kernel
theorem dX11_step_53 : decode cX11_step 53 = .ok (.iload_n 1, 1) := by decide +kernel
theorem dX11_step_54 : decode cX11_step 54 = .ok (.iload_n 2, 1) := by decide +kernel
theorem dX11_step_55 : decode cX11_step 55 = .ok (.iload_n 3, 1) := by decide +kernel
theorem dX11_step_56 : decode cX11_step 56 = .ok (.iload 4, 2) := by decide +kernel
theorem dX11_step_58 : decode cX11_step 58 = .ok (.invokevirtual 118, 3) := by decide +kernel
theorem dX11_step_61 : decode cX11_step 61 = .ok (.aload_n 0, 1) := by decide +kernel
theorem dX11_step_62 : decode cX11_step 62 = .ok (.getfield 25, 3) := by decide +kernel
theorem dX11_step_65 : decode cX11_step 65 = .ok (.getfield 111, 3) := by decide +kernel
theorem dX11_step_68 : decode cX11_step 68 = .ok (.iconst 1, 1) := by decide +kernel
theorem dX11_step_69 : decode cX11_step 69 = .ok (.isub, 1) := by decide +kernel
theorem dX11_step_70 : decode cX11_step 70 = .ok (.ireturn, 1) := by decide +kernel
theorem dX11_load_0 : decode cX11_load 0 = .ok (.aload_n 0, 1) := by decide +kernel
theorem dX11_load_1 : decode cX11_load 1 = .ok (.iconst 0, 1) := by decide +kernel
theorem dX11_load_2 : decode cX11_load 2 = .ok (.putfield 11, 3) := by decide +kernel
theorem dX11_load_5 : decode cX11_load 5 = .ok (.aload_n 0, 1) := by decide +kernel
theorem dX11_load_6 : decode cX11_load 6 = .ok (.iload_n 1, 1) := by decide +kernel
theorem dX11_load_7 : decode cX11_load 7 = .ok (.invokevirtual 122, 3) := by decide +kernel
theorem dX11_load_10 : decode cX11_load 10 = .ok (.astore 5, 2) := by decide +kernel
theorem dX11_load_12 : decode cX11_load 12 = .ok (.aload 5, 2) := by decide +kernel
theorem dX11_load_14 : decode cX11_load 14 = .ok (.ifnonnull 5, 3) := by decide +kernel
theorem dX11_load_17 : decode cX11_load 17 = .ok (.iconst (-1), 1) := by decide +kernel
theorem dX11_load_18 : decode cX11_load 18 = .ok (.ireturn, 1) := by decide +kernel
theorem dX11_load_19 : decode cX11_load 19 = .ok (.iload_n 2, 1) := by decide +kernel
theorem dX11_load_20 : decode cX11_load 20 = .ok (.iconst 0, 1) := by decide +kernel
theorem dX11_load_21 : decode cX11_load 21 = .ok (.iconst 2, 1) := by decide +kernel
theorem dX11_load_22 : decode cX11_load 22 = .ok (.invokestatic 86, 3) := by decide +kernel
theorem dX11_load_25 : decode cX11_load 25 = .ok (.ifCond .ne 6, 3) := by decide +kernel
theorem dX11_load_28 : decode cX11_load 28 = .ok (.bipush (-2), 2) := by decide +kernel
theorem dX11_load_30 : decode cX11_load 30 = .ok (.ireturn, 1) := by decide +kernel
theorem dX11_load_31 : decode cX11_load 31 = .ok (.aload_n 0, 1) := by decide +kernel
theorem dX11_load_32 : decode cX11_load 32 = .ok (.getfield 50, 3) := by decide +kernel
theorem dX11_load_35 : decode cX11_load 35 = .ok (.invokevirtual 90, 3) := by decide +kernel
theorem dX11_load_38 : decode cX11_load 38 = .ok (.ifCond .ne 6, 3) := by decide +kernel
theorem dX11_load_41 : decode cX11_load 41 = .ok (.bipush (-3), 2) := by decide +kernel
theorem dX11_load_43 : decode cX11_load 43 = .ok (.ireturn, 1) := by decide +kernel
theorem dX11_load_44 : decode cX11_load 44 = .ok (.aload 5, 2) := by decide +kernel
theorem dX11_load_46 : decode cX11_load 46 = .ok (.iload_n 2, 1) := by decide +kernel
theorem dX11_load_47 : decode cX11_load 47 = .ok (.invokevirtual 126, 3) := by decide +kernel
theorem dX11_load_50 : decode cX11_load 50 = .ok (.istore 6, 2) := by decide +kernel
theorem dX11_load_52 : decode cX11_load 52 = .ok (.iload 6, 2) := by decide +kernel
theorem dX11_load_54 : decode cX11_load 54 = .ok (.ifCond .ne 27, 3) := by decide +kernel
theorem dX11_load_57 : decode cX11_load 57 = .ok (.iload 4, 2) := by decide +kernel
theorem dX11_load_59 : decode cX11_load 59 = .ok (.ifCond .ge 7, 3) := by decide +kernel
theorem dX11_load_62 : decode cX11_load 62 = .ok (.iconst 4, 1) := by decide +kernel
theorem dX11_load_63 : decode cX11_load 63 = .ok (.goto 16, 3) := by decide +kernel
theorem dX11_load_66 : decode cX11_load 66 = .ok (.aload 5, 2) := by decide +kernel
theorem dX11_load_68 : decode cX11_load 68 = .ok (.iload_n 3, 1) := by decide +kernel
theorem dX11_load_69 : decode cX11_load 69 = .ok (.ldc2_w 129, 3) := by decide +kernel
theorem dX11_load_72 : decode cX11_load 72 = .ok (.iload 4, 2) := by decide +kernel
theorem dX11_load_74 : decode cX11_load 74 = .ok (.i2l, 1) := by decide +kernel
theorem dX11_load_75 : decode cX11_load 75 = .ok (.lmul, 1) := by decide +kernel
theorem dX11_load_76 : decode cX11_load 76 = .ok (.invokevirtual 131, 3) := by decide +kernel
theorem dX11_load_79 : decode cX11_load 79 = .ok (.istore 6, 2) := by decide +kernel
theorem dX11_load_81 : decode cX11_load 81 = .ok (.iload 6, 2) := by decide +kernel
theorem dX11_load_83 : decode cX11_load 83 = .ok (.ifCond .eq 10, 3) := by decide +kernel
theorem dX11_load_86 : decode cX11_load 86 = .ok (.aload_n 0, 1) := by decide +kernel
theorem dX11_load_87 : decode cX11_load 87 = .ok (.iload 6, 2) := by decide +kernel
theorem dX11_load_89 : decode cX11_load 89 = .ok (.invokevirtual 135, 3) := by decide +kernel
theorem dX11_load_92 : decode cX11_load 92 = .ok (.ireturn, 1) := by decide +kernel
theorem dX11_load_93 : decode cX11_load 93 = .ok (.aload_n 0, 1) := by decide +kernel
theorem dX11_load_94 : decode cX11_load 94 = .ok (.getfield 25, 3) := by decide +kernel
theorem dX11_load_97 : decode cX11_load 97 = .ok (.aload 5, 2) := by decide +kernel
theorem dX11_load_99 : decode cX11_load 99 = .ok (.iload_n 3, 1) := by decide +kernel
theorem dX11_load_100 : decode cX11_load 100 = .ok (.iload 4, 2) := by decide +kernel
theorem dX11_load_102 : decode cX11_load 102 = .ok (.invokevirtual 138, 3) := by decide +kernel
theorem dX11_load_105 : decode cX11_load 105 = .ok (.ifCond .ne 6, 3) := by decide +kernel
theorem dX11_load_108 : decode cX11_load 108 = .ok (.bipush (-2), 2) := by decide +kernel
theorem dX11_load_110 : decode cX11_load 110 = .ok (.ireturn, 1) := by decide +kernel
theorem dX11_load_111 : decode cX11_load 111 = .ok (.iload 4, 2) := by decide +kernel
theorem dX11_load_113 : decode cX11_load 113 = .ok (.bipush 30, 2) := by decide +kernel
theorem dX11_load_115 : decode cX11_load 115 = .ok (.aload_n 0, 1) := by decide +kernel
theorem dX11_load_116 : decode cX11_load 116 = .ok (.getfield 25, 3) := by decide +kernel
theorem dX11_load_119 : decode cX11_load 119 = .ok (.getfield 111, 3) := by decide +kernel
theorem dX11_load_122 : decode cX11_load 122 = .ok (.isub, 1) := by decide +kernel
theorem dX11_load_123 : decode cX11_load 123 = .ok (.if_icmp .le 6, 3) := by decide +kernel
theorem dX11_load_126 : decode cX11_load 126 = .ok (.bipush (-4), 2) := by decide +kernel
theorem dX11_load_128 : decode cX11_load 128 = .ok (.ireturn, 1) := by decide +kernel
theorem dX11_load_129 : decode cX11_load 129 = .ok (.aload_n 0, 1) := by decide +kernel
theorem dX11_load_130 : decode cX11_load 130 = .ok (.getfield 25, 3) := by decide +kernel
theorem dX11_load_133 : decode cX11_load 133 = .ok (.aload 5, 2) := by decide +kernel
theorem dX11_load_135 : decode cX11_load 135 = .ok (.iload_n 3, 1) := by decide +kernel
theorem dX11_load_136 : decode cX11_load 136 = .ok (.iload 4, 2) := by decide +kernel
theorem dX11_load_138 : decode cX11_load 138 = .ok (.invokevirtual 142, 3) := by decide +kernel
theorem dX11_load_141 : decode cX11_load 141 = .ok (.aload_n 0, 1) := by decide +kernel
theorem dX11_load_142 : decode cX11_load 142 = .ok (.getfield 25, 3) := by decide +kernel
theorem dX11_load_145 : decode cX11_load 145 = .ok (.getfield 111, 3) := by decide +kernel
theorem dX11_load_148 : decode cX11_load 148 = .ok (.ireturn, 1) := by decide +kernel
theorem dX11_clear_0 : decode cX11_clear 0 = .ok (.aload_n 0, 1) := by decide +kernel
theorem dX11_clear_1 : decode cX11_clear 1 = .ok (.getfield 50, 3) := by decide +kernel
theorem dX11_clear_4 : decode cX11_clear 4 = .ok (.invokevirtual 90, 3) := by decide +kernel
theorem dX11_clear_7 : decode cX11_clear 7 = .ok (.ifCond .ne 6, 3) := by decide +kernel
theorem dX11_clear_10 : decode cX11_clear 10 = .ok (.bipush (-3), 2) := by decide +kernel
theorem dX11_clear_12 : decode cX11_clear 12 = .ok (.ireturn, 1) := by decide +kernel
theorem dX11_clear_13 : decode cX11_clear 13 = .ok (.aload_n 0, 1) := by decide +kernel
theorem dX11_clear_14 : decode cX11_clear 14 = .ok (.getfield 25, 3) := by decide +kernel
theorem dX11_clear_17 : decode cX11_clear 17 = .ok (.getfield 111, 3) := by decide +kernel
theorem dX11_clear_20 : decode cX11_clear 20 = .ok (.istore_n 1, 1) := by decide +kernel
theorem dX11_clear_21 : decode cX11_clear 21 = .ok (.aload_n 0, 1) := by decide +kernel
theorem dX11_clear_22 : decode cX11_clear 22 = .ok (.getfield 25, 3) := by decide +kernel
theorem dX11_clear_25 : decode cX11_clear 25 = .ok (.iconst 0, 1) := by decide +kernel
theorem dX11_clear_26 : decode cX11_clear 26 = .ok (.putfield 111, 3) := by decide +kernel
theorem dX11_clear_29 : decode cX11_clear 29 = .ok (.iload_n 1, 1) := by decide +kernel
theorem dX11_clear_30 : decode cX11_clear 30 = .ok (.ireturn, 1) := by decide +kernel
theorem dX11_stepped_0 : decode cX11_stepped 0 = .ok (.aload_n 0, 1) := by decide +kernel
theorem dX11_stepped_1 : decode cX11_stepped 1 = .ok (.getfield 25, 3) := by decide +kernel
theorem dX11_stepped_4 : decode cX11_stepped 4 = .ok (.iload_n 1, 1) := by decide +kernel
theorem dX11_stepped_5 : decode cX11_stepped 5 = .ok (.invokevirtual 146, 3) := by decide +kernel
theorem dX11_stepped_8 : decode cX11_stepped 8 = .ok (.ifCond .ne 5, 3) := by decide +kernel
theorem dX11_stepped_11 : decode cX11_stepped 11 = .ok (.iconst (-1), 1) := by decide +kernel
theorem dX11_stepped_12 : decode cX11_stepped 12 = .ok (.ireturn, 1) := by decide +kernel
theorem dX11_stepped_13 : decode cX11_stepped 13 = .ok (.iload_n 2, 1) := by decide +kernel
theorem dX11_stepped_14 : decode cX11_stepped 14 = .ok (.iconst 0, 1) := by decide +kernel
theorem dX11_stepped_15 : decode cX11_stepped 15 = .ok (.iconst 3, 1) := by decide +kernel
theorem dX11_stepped_16 : decode cX11_stepped 16 = .ok (.invokestatic 86, 3) := by decide +kernel
theorem dX11_stepped_19 : decode cX11_stepped 19 = .ok (.ifCond .ne 6, 3) := by decide +kernel
theorem dX11_stepped_22 : decode cX11_stepped 22 = .ok (.bipush (-2), 2) := by decide +kernel
theorem dX11_stepped_24 : decode cX11_stepped 24 = .ok (.ireturn, 1) := by decide +kernel
theorem dX11_stepped_25 : decode cX11_stepped 25 = .ok (.aload_n 0, 1) := by decide +kernel
theorem dX11_stepped_26 : decode cX11_stepped 26 = .ok (.getfield 25, 3) := by decide +kernel
theorem dX11_stepped_29 : decode cX11_stepped 29 = .ok (.iload_n 1, 1) := by decide +kernel
theorem dX11_stepped_30 : decode cX11_stepped 30 = .ok (.iload_n 2, 1) := by decide +kernel
theorem dX11_stepped_31 : decode cX11_stepped 31 = .ok (.invokevirtual 150, 3) := by decide +kernel
theorem dX11_stepped_34 : decode cX11_stepped 34 = .ok (.ireturn, 1) := by decide +kernel
theorem dX11_start_0 : decode cX11_start 0 = .ok (.aload_n 0, 1) := by decide +kernel
theorem dX11_start_1 : decode cX11_start 1 = .ok (.getfield 50, 3) := by decide +kernel
theorem dX11_start_4 : decode cX11_start 4 = .ok (.invokevirtual 90, 3) := by decide +kernel
theorem dX11_start_7 : decode cX11_start 7 = .ok (.ifCond .eq 13, 3) := by decide +kernel
theorem dX11_start_10 : decode cX11_start 10 = .ok (.aload_n 0, 1) := by decide +kernel
theorem dX11_start_11 : decode cX11_start 11 = .ok (.getfield 25, 3) := by decide +kernel
theorem dX11_start_14 : decode cX11_start 14 = .ok (.getfield 111, 3) := by decide +kernel
theorem dX11_start_17 : decode cX11_start 17 = .ok (.ifCond .ne 6, 3) := by decide +kernel
theorem dX11_start_20 : decode cX11_start 20 = .ok (.bipush (-3), 2) := by decide +kernel
theorem dX11_start_22 : decode cX11_start 22 = .ok (.ireturn, 1) := by decide +kernel
theorem dX11_start_23 : decode cX11_start 23 = .ok (.aload_n 0, 1) := by decide +kernel
theorem dX11_start_24 : decode cX11_start 24 = .ok (.getfield 50, 3) := by decide +kernel
theorem dX11_start_27 : decode cX11_start 27 = .ok (.invokevirtual 153, 3) := by decide +kernel
theorem dX11_start_30 : decode cX11_start 30 = .ok (.iconst 1, 1) := by decide +kernel
theorem dX11_start_31 : decode cX11_start 31 = .ok (.ireturn, 1) := by decide +kernel
theorem dX11_tick_0 : decode cX11_tick 0 = .ok (.iload_n 1, 1) := by decide +kernel
theorem dX11_tick_1 : decode cX11_tick 1 = .ok (.iconst 0, 1) := by decide +kernel
theorem dX11_tick_2 : decode cX11_tick 2 = .ok (.sipush 1000, 3) := by decide +kernel
theorem dX11_tick_5 : decode cX11_tick 5 = .ok (.invokestatic 86, 3) := by decide +kernel
theorem dX11_tick_8 : decode cX11_tick 8 = .ok (.ifCond .ne 6, 3) := by decide +kernel
theorem dX11_tick_11 : decode cX11_tick 11 = .ok (.bipush (-2), 2) := by decide +kernel
theorem dX11_tick_13 : decode cX11_tick 13 = .ok (.ireturn, 1) := by decide +kernel
theorem dX11_tick_14 : decode cX11_tick 14 = .ok (.aload_n 0, 1) := by decide +kernel
theorem dX11_tick_15 : decode cX11_tick 15 = .ok (.getfield 50, 3) := by decide +kernel
theorem dX11_tick_18 : decode cX11_tick 18 = .ok (.invokevirtual 90, 3) := by decide +kernel
theorem dX11_tick_21 : decode cX11_tick 21 = .ok (.ifCond .eq 6, 3) := by decide +kernel
theorem dX11_tick_24 : decode cX11_tick 24 = .ok (.bipush (-3), 2) := by decide +kernel
theorem dX11_tick_26 : decode cX11_tick 26 = .ok (.ireturn, 1) := by decide +kernel
theorem dX11_tick_27 : decode cX11_tick 27 = .ok (.iconst 0, 1) := by decide +kernel
theorem dX11_tick_28 : decode cX11_tick 28 = .ok (.istore_n 2, 1) := by decide +kernel
theorem dX11_tick_29 : decode cX11_tick 29 = .ok (.iload_n 2, 1) := by decide +kernel
theorem dX11_tick_30 : decode cX11_tick 30 = .ok (.iload_n 1, 1) := by decide +kernel
theorem dX11_tick_31 : decode cX11_tick 31 = .ok (.if_icmp .ge 39, 3) := by decide +kernel
theorem dX11_tick_34 : decode cX11_tick 34 = .ok (.aload_n 0, 1) := by decide +kernel
theorem dX11_tick_35 : decode cX11_tick 35 = .ok (.getfield 50, 3) := by decide +kernel
theorem dX11_tick_38 : decode cX11_tick 38 = .ok (.invokevirtual 156, 3) := by decide +kernel
theorem dX11_tick_41 : decode cX11_tick 41 = .ok (.ifCond .eq 29, 3) := by decide +kernel
theorem dX11_tick_44 : decode cX11_tick 44 = .ok (.aload_n 0, 1) := by decide +kernel
theorem dX11_tick_45 : decode cX11_tick 45 = .ok (.getfield 18, 3) := by decide +kernel
theorem dX11_tick_48 : decode cX11_tick 48 = .ok (.getfield 159, 3) := by decide +kernel
theorem dX11_tick_51 : decode cX11_tick 51 = .ok (.sipush 3000, 3) := by decide +kernel
theorem dX11_tick_54 : decode cX11_tick 54 = .ok (.if_icmp .ge 16, 3) := by decide +kernel
theorem dX11_tick_57 : decode cX11_tick 57 = .ok (.aload_n 0, 1) := by decide +kernel
theorem dX11_tick_58 : decode cX11_tick 58 = .ok (.getfield 50, 3) := by decide +kernel
theorem dX11_tick_61 : decode cX11_tick 61 = .ok (.invokevirtual 162, 3) := by decide +kernel
theorem dX11_tick_64 : decode cX11_tick 64 = .ok (.iinc 2 1, 3) := by decide +kernel
theorem dX11_tick_67 : decode cX11_tick 67 = .ok (.goto (-38), 3) := by decide +kernel
theorem dX11_tick_70 : decode cX11_tick 70 = .ok (.iload_n 2, 1) := by decide +kernel
theorem dX11_tick_71 : decode cX11_tick 71 = .ok (.ireturn, 1) := by decide +kernel
theorem dX11_stop_0 : decode cX11_stop 0 = .ok (.aload_n 0, 1) := by decide +kernel
theorem dX11_stop_1 : decode cX11_stop 1 = .ok (.getfield 50, 3) := by decide +kernel
theorem dX11_stop_4 : decode cX11_stop 4 = .ok (.getfield 165, 3) := by decide +kernel
theorem dX11_stop_7 : decode cX11_stop 7 = .ok (.iconst 1, 1) := by decide +kernel
theorem dX11_stop_8 : decode cX11_stop 8 = .ok (.if_icmp .eq 6, 3) := by decide +kernel
theorem dX11_stop_11 : decode cX11_stop 11 = .ok (.bipush (-3), 2) := by decide +kernel
theorem dX11_stop_13 : decode cX11_stop 13 = .ok (.ireturn, 1) := by decide +kernel
theorem dX11_stop_14 : decode cX11_stop 14 = .ok (.aload_n 0, 1) := by decide +kernel
theorem dX11_stop_15 : decode cX11_stop 15 = .ok (.getfield 50, 3) := by decide +kernel
theorem dX11_stop_18 : decode cX11_stop 18 = .ok (.iconst 4, 1) := by decide +kernel
theorem dX11_stop_19 : decode cX11_stop 19 = .ok (.invokevirtual 168, 3) := by decide +kernel
theorem dX11_stop_22 : decode cX11_stop 22 = .ok (.iconst 1, 1) := by decide +kernel
theorem dX11_stop_23 : decode cX11_stop 23 = .ok (.ireturn, 1) := by decide +kernel
theorem dX11_reset_0 : decode cX11_reset 0 = .ok (.aload_n 0, 1) := by decide +kernel
theorem dX11_reset_1 : decode cX11_reset 1 = .ok (.getfield 50, 3) := by decide +kernel
theorem dX11_reset_4 : decode cX11_reset 4 = .ok (.invokevirtual 156, 3) := by decide +kernel
theorem dX11_reset_7 : decode cX11_reset 7 = .ok (.ifCond .eq 6, 3) := by decide +kernel
theorem dX11_reset_10 : decode cX11_reset 10 = .ok (.bipush (-3), 2) := by decide +kernel
theorem dX11_reset_12 : decode cX11_reset 12 = .ok (.ireturn, 1) := by decide +kernel
theorem dX11_reset_13 : decode cX11_reset 13 = .ok (.aload_n 0, 1) := by decide +kernel
theorem dX11_reset_14 : decode cX11_reset 14 = .ok (.getfield 18, 3) := by decide +kernel
theorem dX11_reset_17 : decode cX11_reset 17 = .ok (.getfield 159, 3) := by decide +kernel
theorem dX11_reset_20 : decode cX11_reset 20 = .ok (.istore_n 1, 1) := by decide +kernel
theorem dX11_reset_21 : decode cX11_reset 21 = .ok (.aload_n 0, 1) := by decide +kernel
theorem dX11_reset_22 : decode cX11_reset 22 = .ok (.getfield 18, 3) := by decide +kernel
theorem dX11_reset_25 : decode cX11_reset 25 = .ok (.iconst 0, 1) := by decide +kernel
theorem dX11_reset_26 : decode cX11_reset 26 = .ok (.putfield 159, 3) := by decide +kernel
theorem dX11_reset_29 : decode cX11_reset 29 = .ok (.aload_n 0, 1) := by decide +kernel
theorem dX11_reset_30 : decode cX11_reset 30 = .ok (.getfield 41, 3) := by decide +kernel
theorem dX11_reset_33 : decode cX11_reset 33 = .ok (.iconst 0, 1) := by decide +kernel
theorem dX11_reset_34 : decode cX11_reset 34 = .ok (.putfield 172, 3) := by decide +kernel
theorem dX11_reset_37 : decode cX11_reset 37 = .ok (.aload_n 0, 1) := by decide +kernel
theorem dX11_reset_38 : decode cX11_reset 38 = .ok (.getfield 50, 3) := by decide +kernel
theorem dX11_reset_41 : decode cX11_reset 41 = .ok (.invokevirtual 173, 3) := by decide +kernel
theorem dX11_reset_44 : decode cX11_reset 44 = .ok (.iload_n 1, 1) := by decide +kernel
theorem dX11_reset_45 : decode cX11_reset 45 = .ok (.ireturn, 1) := by decide +kernel
theorem dX11_told_0 : decode cX11_told 0 = .ok (.iload_n 1, 1) := by decide +kernel
theorem dX11_told_1 : decode cX11_told 1 = .ok (.tableswitch 138 0 9 #[55, 63, 71, 79, 87, 95, 103, 111, 119, 130], 55) := by decide +kernel
theorem dX11_told_56 : decode cX11_told 56 = .ok (.aload_n 0, 1) := by decide +kernel
theorem dX11_told_57 : decode cX11_told 57 = .ok (.getfield 50, 3) := by decide +kernel
theorem dX11_told_60 : decode cX11_told 60 = .ok (.getfield 165, 3) := by decide +kernel
theorem dX11_told_63 : decode cX11_told 63 = .ok (.ireturn, 1) := by decide +kernel
theorem dX11_told_64 : decode cX11_told 64 = .ok (.aload_n 0, 1) := by decide +kernel
theorem dX11_told_65 : decode cX11_told 65 = .ok (.getfield 18, 3) := by decide +kernel
theorem dX11_told_68 : decode cX11_told 68 = .ok (.getfield 159, 3) := by decide +kernel
theorem dX11_told_71 : decode cX11_told 71 = .ok (.ireturn, 1) := by decide +kernel
theorem dX11_told_72 : decode cX11_told 72 = .ok (.aload_n 0, 1) := by decide +kernel
theorem dX11_told_73 : decode cX11_told 73 = .ok (.getfield 50, 3) := by decide +kernel
theorem dX11_told_76 : decode cX11_told 76 = .ok (.getfield 176, 3) := by decide +kernel
theorem dX11_told_79 : decode cX11_told 79 = .ok (.ireturn, 1) := by decide +kernel
theorem dX11_told_80 : decode cX11_told 80 = .ok (.aload_n 0, 1) := by decide +kernel
theorem dX11_told_81 : decode cX11_told 81 = .ok (.getfield 50, 3) := by decide +kernel
theorem dX11_told_84 : decode cX11_told 84 = .ok (.getfield 179, 3) := by decide +kernel
theorem dX11_told_87 : decode cX11_told 87 = .ok (.ireturn, 1) := by decide +kernel
theorem dX11_told_88 : decode cX11_told 88 = .ok (.aload_n 0, 1) := by decide +kernel
theorem dX11_told_89 : decode cX11_told 89 = .ok (.getfield 50, 3) := by decide +kernel
theorem dX11_told_92 : decode cX11_told 92 = .ok (.getfield 182, 3) := by decide +kernel
theorem dX11_told_95 : decode cX11_told 95 = .ok (.ireturn, 1) := by decide +kernel
theorem dX11_told_96 : decode cX11_told 96 = .ok (.aload_n 0, 1) := by decide +kernel
theorem dX11_told_97 : decode cX11_told 97 = .ok (.getfield 41, 3) := by decide +kernel
theorem dX11_told_100 : decode cX11_told 100 = .ok (.getfield 172, 3) := by decide +kernel
theorem dX11_told_103 : decode cX11_told 103 = .ok (.ireturn, 1) := by decide +kernel
theorem dX11_told_104 : decode cX11_told 104 = .ok (.aload_n 0, 1) := by decide +kernel
theorem dX11_told_105 : decode cX11_told 105 = .ok (.getfield 25, 3) := by decide +kernel
theorem dX11_told_108 : decode cX11_told 108 = .ok (.getfield 111, 3) := by decide +kernel
theorem dX11_told_111 : decode cX11_told 111 = .ok (.ireturn, 1) := by decide +kernel
theorem dX11_told_112 : decode cX11_told 112 = .ok (.aload_n 0, 1) := by decide +kernel
theorem dX11_told_113 : decode cX11_told 113 = .ok (.getfield 34, 3) := by decide +kernel
theorem dX11_told_116 : decode cX11_told 116 = .ok (.getfield 185, 3) := by decide +kernel
theorem dX11_told_119 : decode cX11_told 119 = .ok (.ireturn, 1) := by decide +kernel
theorem dX11_told_120 : decode cX11_told 120 = .ok (.aload_n 0, 1) := by decide +kernel
theorem dX11_told_121 : decode cX11_told 121 = .ok (.getfield 34, 3) := by decide +kernel
theorem dX11_told_124 : decode cX11_told 124 = .ok (.getfield 186, 3) := by decide +kernel
theorem dX11_told_127 : decode cX11_told 127 = .ok (.getfield 190, 3) := by decide +kernel
theorem dX11_told_130 : decode cX11_told 130 = .ok (.ireturn, 1) := by decide +kernel
theorem dX11_told_131 : decode cX11_told 131 = .ok (.aload_n 0, 1) := by decide +kernel
theorem dX11_told_132 : decode cX11_told 132 = .ok (.getfield 18, 3) := by decide +kernel
theorem dX11_told_135 : decode cX11_told 135 = .ok (.getfield 108, 3) := by decide +kernel
theorem dX11_told_138 : decode cX11_told 138 = .ok (.ireturn, 1) := by decide +kernel
theorem dX11_told_139 : decode cX11_told 139 = .ok (.bipush (-2), 2) := by decide +kernel
theorem dX11_told_141 : decode cX11_told 141 = .ok (.ireturn, 1) := by decide +kernel
theorem dX11_was_0 : decode cX11_was 0 = .ok (.iload_n 1, 1) := by decide +kernel
theorem dX11_was_1 : decode cX11_was 1 = .ok (.iconst 0, 1) := by decide +kernel
theorem dX11_was_2 : decode cX11_was 2 = .ok (.aload_n 0, 1) := by decide +kernel
theorem dX11_was_3 : decode cX11_was 3 = .ok (.getfield 18, 3) := by decide +kernel
theorem dX11_was_6 : decode cX11_was 6 = .ok (.getfield 159, 3) := by decide +kernel
theorem dX11_was_9 : decode cX11_was 9 = .ok (.invokestatic 86, 3) := by decide +kernel
theorem dX11_was_12 : decode cX11_was 12 = .ok (.ifCond .ne 5, 3) := by decide +kernel
theorem dX11_was_15 : decode cX11_was 15 = .ok (.iconst (-1), 1) := by decide +kernel
theorem dX11_was_16 : decode cX11_was 16 = .ok (.ireturn, 1) := by decide +kernel
theorem dX11_was_17 : decode cX11_was 17 = .ok (.iload_n 2, 1) := by decide +kernel
theorem dX11_was_18 : decode cX11_was 18 = .ok (.iconst 0, 1) := by decide +kernel
theorem dX11_was_19 : decode cX11_was 19 = .ok (.bipush 6, 2) := by decide +kernel
theorem dX11_was_21 : decode cX11_was 21 = .ok (.invokestatic 86, 3) := by decide +kernel
theorem dX11_was_24 : decode cX11_was 24 = .ok (.ifCond .ne 6, 3) := by decide +kernel
theorem dX11_was_27 : decode cX11_was 27 = .ok (.bipush (-2), 2) := by decide +kernel
theorem dX11_was_29 : decode cX11_was 29 = .ok (.ireturn, 1) := by decide +kernel
theorem dX11_was_30 : decode cX11_was 30 = .ok (.aload_n 0, 1) := by decide +kernel
theorem dX11_was_31 : decode cX11_was 31 = .ok (.getfield 18, 3) := by decide +kernel
theorem dX11_was_34 : decode cX11_was 34 = .ok (.iload_n 1, 1) := by decide +kernel
theorem dX11_was_35 : decode cX11_was 35 = .ok (.iload_n 2, 1) := by decide +kernel
theorem dX11_was_36 : decode cX11_was 36 = .ok (.invokevirtual 193, 3) := by decide +kernel
theorem dX11_was_39 : decode cX11_was 39 = .ok (.ireturn, 1) := by decide +kernel
theorem dX11_mark_0 : decode cX11_mark 0 = .ok (.aload_n 0, 1) := by decide +kernel
theorem dX11_mark_1 : decode cX11_mark 1 = .ok (.getfield 41, 3) := by decide +kernel
theorem dX11_mark_4 : decode cX11_mark 4 = .ok (.iload_n 1, 1) := by decide +kernel
theorem dX11_mark_5 : decode cX11_mark 5 = .ok (.invokevirtual 196, 3) := by decide +kernel
theorem dX11_mark_8 : decode cX11_mark 8 = .ok (.ifCond .eq 14, 3) := by decide +kernel
theorem dX11_mark_11 : decode cX11_mark 11 = .ok (.aload_n 0, 1) := by decide +kernel
theorem dX11_mark_12 : decode cX11_mark 12 = .ok (.getfield 41, 3) := by decide +kernel
theorem dX11_mark_15 : decode cX11_mark 15 = .ok (.iload_n 1, 1) := by decide +kernel
theorem dX11_mark_16 : decode cX11_mark 16 = .ok (.invokevirtual 197, 3) := by decide +kernel
theorem dX11_mark_19 : decode cX11_mark 19 = .ok (.goto 4, 3) := by decide +kernel
theorem dX11_mark_22 : decode cX11_mark 22 = .ok (.iconst (-1), 1) := by decide +kernel
theorem dX11_mark_23 : decode cX11_mark 23 = .ok (.ireturn, 1) := by decide +kernel
theorem dX11_channel_0 : decode cX11_channel 0 = .ok (.aload_n 0, 1) := by decide +kernel
theorem dX11_channel_1 : decode cX11_channel 1 = .ok (.getfield 50, 3) := by decide +kernel
theorem dX11_channel_4 : decode cX11_channel 4 = .ok (.invokevirtual 90, 3) := by decide +kernel
theorem dX11_channel_7 : decode cX11_channel 7 = .ok (.ifCond .ne 6, 3) := by decide +kernel
theorem dX11_channel_10 : decode cX11_channel 10 = .ok (.bipush (-3), 2) := by decide +kernel
theorem dX11_channel_12 : decode cX11_channel 12 = .ok (.ireturn, 1) := by decide +kernel
theorem dX11_channel_13 : decode cX11_channel 13 = .ok (.iload_n 1, 1) := by decide +kernel
theorem dX11_channel_14 : decode cX11_channel 14 = .ok (.iconst 0, 1) := by decide +kernel
theorem dX11_channel_15 : decode cX11_channel 15 = .ok (.iconst 4, 1) := by decide +kernel
theorem dX11_channel_16 : decode cX11_channel 16 = .ok (.invokestatic 86, 3) := by decide +kernel
theorem dX11_channel_19 : decode cX11_channel 19 = .ok (.ifCond .eq 23, 3) := by decide +kernel
theorem dX11_channel_22 : decode cX11_channel 22 = .ok (.iload_n 2, 1) := by decide +kernel
theorem dX11_channel_23 : decode cX11_channel 23 = .ok (.iconst 1, 1) := by decide +kernel
theorem dX11_channel_24 : decode cX11_channel 24 = .ok (.bipush 20, 2) := by decide +kernel
theorem dX11_channel_26 : decode cX11_channel 26 = .ok (.invokestatic 86, 3) := by decide +kernel
theorem dX11_channel_29 : decode cX11_channel 29 = .ok (.ifCond .eq 13, 3) := by decide +kernel
theorem dX11_channel_32 : decode cX11_channel 32 = .ok (.iload_n 3, 1) := by decide +kernel
theorem dX11_channel_33 : decode cX11_channel 33 = .ok (.iconst 0, 1) := by decide +kernel
theorem dX11_channel_34 : decode cX11_channel 34 = .ok (.bipush 20, 2) := by decide +kernel
theorem dX11_channel_36 : decode cX11_channel 36 = .ok (.invokestatic 86, 3) := by decide +kernel
theorem dX11_channel_39 : decode cX11_channel 39 = .ok (.ifCond .ne 6, 3) := by decide +kernel
theorem dX11_channel_42 : decode cX11_channel 42 = .ok (.bipush (-2), 2) := by decide +kernel
theorem dX11_channel_44 : decode cX11_channel 44 = .ok (.ireturn, 1) := by decide +kernel
theorem dX11_channel_45 : decode cX11_channel 45 = .ok (.iload 4, 2) := by decide +kernel
theorem dX11_channel_47 : decode cX11_channel 47 = .ok (.sipush (-10000), 3) := by decide +kernel
theorem dX11_channel_50 : decode cX11_channel 50 = .ok (.sipush 10000, 3) := by decide +kernel
theorem dX11_channel_53 : decode cX11_channel 53 = .ok (.invokestatic 86, 3) := by decide +kernel
theorem dX11_channel_56 : decode cX11_channel 56 = .ok (.ifCond .eq 16, 3) := by decide +kernel
theorem dX11_channel_59 : decode cX11_channel 59 = .ok (.iload 5, 2) := by decide +kernel
theorem dX11_channel_61 : decode cX11_channel 61 = .ok (.iload 4, 2) := by decide +kernel
theorem dX11_channel_63 : decode cX11_channel 63 = .ok (.sipush 10000, 3) := by decide +kernel
theorem dX11_channel_66 : decode cX11_channel 66 = .ok (.invokestatic 86, 3) := by decide +kernel
theorem dX11_channel_69 : decode cX11_channel 69 = .ok (.ifCond .ne 6, 3) := by decide +kernel
theorem dX11_channel_72 : decode cX11_channel 72 = .ok (.bipush (-2), 2) := by decide +kernel
theorem dX11_channel_74 : decode cX11_channel 74 = .ok (.ireturn, 1) := by decide +kernel
theorem dX11_channel_75 : decode cX11_channel 75 = .ok (.aload_n 0, 1) := by decide +kernel
theorem dX11_channel_76 : decode cX11_channel 76 = .ok (.getfield 34, 3) := by decide +kernel
theorem dX11_channel_79 : decode cX11_channel 79 = .ok (.getfield 185, 3) := by decide +kernel
theorem dX11_channel_82 : decode cX11_channel 82 = .ok (.bipush 8, 2) := by decide +kernel
theorem dX11_channel_84 : decode cX11_channel 84 = .ok (.if_icmp .lt 6, 3) := by decide +kernel
theorem dX11_channel_87 : decode cX11_channel 87 = .ok (.bipush (-4), 2) := by decide +kernel
theorem dX11_channel_89 : decode cX11_channel 89 = .ok (.ireturn, 1) := by decide +kernel
theorem dX11_channel_90 : decode cX11_channel 90 = .ok (.aload_n 0, 1) := by decide +kernel
theorem dX11_channel_91 : decode cX11_channel 91 = .ok (.getfield 34, 3) := by decide +kernel
theorem dX11_channel_94 : decode cX11_channel 94 = .ok (.new 200, 3) := by decide +kernel
theorem dX11_channel_97 : decode cX11_channel 97 = .ok (.dup, 1) := by decide +kernel
theorem dX11_channel_98 : decode cX11_channel 98 = .ok (.aload_n 0, 1) := by decide +kernel
theorem dX11_channel_99 : decode cX11_channel 99 = .ok (.getfield 34, 3) := by decide +kernel
theorem dX11_channel_102 : decode cX11_channel 102 = .ok (.getfield 185, 3) := by decide +kernel
theorem dX11_channel_105 : decode cX11_channel 105 = .ok (.iload_n 1, 1) := by decide +kernel
theorem dX11_channel_106 : decode cX11_channel 106 = .ok (.iload_n 2, 1) := by decide +kernel
theorem dX11_channel_107 : decode cX11_channel 107 = .ok (.iload_n 3, 1) := by decide +kernel
theorem dX11_channel_108 : decode cX11_channel 108 = .ok (.iload 4, 2) := by decide +kernel
theorem dX11_channel_110 : decode cX11_channel 110 = .ok (.iload 5, 2) := by decide +kernel
theorem dX11_channel_112 : decode cX11_channel 112 = .ok (.invokespecial 202, 3) := by decide +kernel
theorem dX11_channel_115 : decode cX11_channel 115 = .ok (.invokevirtual 205, 3) := by decide +kernel
theorem dX11_channel_118 : decode cX11_channel 118 = .ok (.aload_n 0, 1) := by decide +kernel
theorem dX11_channel_119 : decode cX11_channel 119 = .ok (.getfield 34, 3) := by decide +kernel
theorem dX11_channel_122 : decode cX11_channel 122 = .ok (.getfield 185, 3) := by decide +kernel
theorem dX11_channel_125 : decode cX11_channel 125 = .ok (.iconst 1, 1) := by decide +kernel
theorem dX11_channel_126 : decode cX11_channel 126 = .ok (.isub, 1) := by decide +kernel
theorem dX11_channel_127 : decode cX11_channel 127 = .ok (.ireturn, 1) := by decide +kernel
theorem dX11_limit_0 : decode cX11_limit 0 = .ok (.aload_n 0, 1) := by decide +kernel
theorem dX11_limit_1 : decode cX11_limit 1 = .ok (.getfield 34, 3) := by decide +kernel
theorem dX11_limit_4 : decode cX11_limit 4 = .ok (.iload_n 1, 1) := by decide +kernel
theorem dX11_limit_5 : decode cX11_limit 5 = .ok (.invokevirtual 208, 3) := by decide +kernel
theorem dX11_limit_8 : decode cX11_limit 8 = .ok (.astore_n 3, 1) := by decide +kernel
theorem dX11_limit_9 : decode cX11_limit 9 = .ok (.aload_n 3, 1) := by decide +kernel
theorem dX11_limit_10 : decode cX11_limit 10 = .ok (.ifnonnull 5, 3) := by decide +kernel
theorem dX11_limit_13 : decode cX11_limit 13 = .ok (.iconst (-1), 1) := by decide +kernel
theorem dX11_limit_14 : decode cX11_limit 14 = .ok (.ireturn, 1) := by decide +kernel
theorem dX11_limit_15 : decode cX11_limit 15 = .ok (.iload_n 2, 1) := by decide +kernel
theorem dX11_limit_16 : decode cX11_limit 16 = .ok (.sipush (-30000), 3) := by decide +kernel
theorem dX11_limit_19 : decode cX11_limit 19 = .ok (.sipush 30000, 3) := by decide +kernel
theorem dX11_limit_22 : decode cX11_limit 22 = .ok (.invokestatic 86, 3) := by decide +kernel
theorem dX11_limit_25 : decode cX11_limit 25 = .ok (.ifCond .ne 6, 3) := by decide +kernel
theorem dX11_limit_28 : decode cX11_limit 28 = .ok (.bipush (-2), 2) := by decide +kernel
theorem dX11_limit_30 : decode cX11_limit 30 = .ok (.ireturn, 1) := by decide +kernel
theorem dX11_limit_31 : decode cX11_limit 31 = .ok (.aload_n 3, 1) := by decide +kernel
theorem dX11_limit_32 : decode cX11_limit 32 = .ok (.iconst 1, 1) := by decide +kernel
theorem dX11_limit_33 : decode cX11_limit 33 = .ok (.putfield 212, 3) := by decide +kernel
theorem dX11_limit_36 : decode cX11_limit 36 = .ok (.aload_n 3, 1) := by decide +kernel
theorem dX11_limit_37 : decode cX11_limit 37 = .ok (.iload_n 2, 1) := by decide +kernel
theorem dX11_limit_38 : decode cX11_limit 38 = .ok (.putfield 216, 3) := by decide +kernel
theorem dX11_limit_41 : decode cX11_limit 41 = .ok (.iconst 1, 1) := by decide +kernel
theorem dX11_limit_42 : decode cX11_limit 42 = .ok (.ireturn, 1) := by decide +kernel
theorem dX11_lose_0 : decode cX11_lose 0 = .ok (.aload_n 0, 1) := by decide +kernel
theorem dX11_lose_1 : decode cX11_lose 1 = .ok (.getfield 34, 3) := by decide +kernel
theorem dX11_lose_4 : decode cX11_lose 4 = .ok (.iload_n 1, 1) := by decide +kernel
theorem dX11_lose_5 : decode cX11_lose 5 = .ok (.invokevirtual 208, 3) := by decide +kernel
theorem dX11_lose_8 : decode cX11_lose 8 = .ok (.ifnonnull 5, 3) := by decide +kernel
theorem dX11_lose_11 : decode cX11_lose 11 = .ok (.iconst (-1), 1) := by decide +kernel
theorem dX11_lose_12 : decode cX11_lose 12 = .ok (.ireturn, 1) := by decide +kernel
theorem dX11_lose_13 : decode cX11_lose 13 = .ok (.iload_n 2, 1) := by decide +kernel
theorem dX11_lose_14 : decode cX11_lose 14 = .ok (.iconst 0, 1) := by decide +kernel
theorem dX11_lose_15 : decode cX11_lose 15 = .ok (.sipush 3000, 3) := by decide +kernel
theorem dX11_lose_18 : decode cX11_lose 18 = .ok (.invokestatic 86, 3) := by decide +kernel
theorem dX11_lose_21 : decode cX11_lose 21 = .ok (.ifCond .eq 14, 3) := by decide +kernel
theorem dX11_lose_24 : decode cX11_lose 24 = .ok (.iload_n 3, 1) := by decide +kernel
theorem dX11_lose_25 : decode cX11_lose 25 = .ok (.iload_n 2, 1) := by decide +kernel
theorem dX11_lose_26 : decode cX11_lose 26 = .ok (.sipush 3000, 3) := by decide +kernel
theorem dX11_lose_29 : decode cX11_lose 29 = .ok (.invokestatic 86, 3) := by decide +kernel
theorem dX11_lose_32 : decode cX11_lose 32 = .ok (.ifCond .ne 6, 3) := by decide +kernel
theorem dX11_lose_35 : decode cX11_lose 35 = .ok (.bipush (-2), 2) := by decide +kernel
theorem dX11_lose_37 : decode cX11_lose 37 = .ok (.ireturn, 1) := by decide +kernel
theorem dX11_lose_38 : decode cX11_lose 38 = .ok (.aload_n 0, 1) := by decide +kernel
theorem dX11_lose_39 : decode cX11_lose 39 = .ok (.getfield 34, 3) := by decide +kernel
theorem dX11_lose_42 : decode cX11_lose 42 = .ok (.getfield 219, 3) := by decide +kernel
theorem dX11_lose_45 : decode cX11_lose 45 = .ok (.getfield 190, 3) := by decide +kernel
theorem dX11_lose_48 : decode cX11_lose 48 = .ok (.bipush 20, 2) := by decide +kernel
theorem dX11_lose_50 : decode cX11_lose 50 = .ok (.if_icmp .lt 6, 3) := by decide +kernel
theorem dX11_lose_53 : decode cX11_lose 53 = .ok (.bipush (-4), 2) := by decide +kernel
theorem dX11_lose_55 : decode cX11_lose 55 = .ok (.ireturn, 1) := by decide +kernel
theorem dX11_lose_56 : decode cX11_lose 56 = .ok (.aload_n 0, 1) := by decide +kernel
theorem dX11_lose_57 : decode cX11_lose 57 = .ok (.getfield 34, 3) := by decide +kernel
theorem dX11_lose_60 : decode cX11_lose 60 = .ok (.getfield 219, 3) := by decide +kernel
theorem dX11_lose_63 : decode cX11_lose 63 = .ok (.iload_n 1, 1) := by decide +kernel
theorem dX11_lose_64 : decode cX11_lose 64 = .ok (.iload_n 2, 1) := by decide +kernel
theorem dX11_lose_65 : decode cX11_lose 65 = .ok (.iload_n 3, 1) := by decide +kernel
theorem dX11_lose_66 : decode cX11_lose 66 = .ok (.iconst 0, 1) := by decide +kernel
theorem dX11_lose_67 : decode cX11_lose 67 = .ok (.invokevirtual 222, 3) := by decide +kernel
theorem dX11_lose_70 : decode cX11_lose 70 = .ok (.aload_n 0, 1) := by decide +kernel
theorem dX11_lose_71 : decode cX11_lose 71 = .ok (.getfield 34, 3) := by decide +kernel
theorem dX11_lose_74 : decode cX11_lose 74 = .ok (.getfield 219, 3) := by decide +kernel
theorem dX11_lose_77 : decode cX11_lose 77 = .ok (.getfield 190, 3) := by decide +kernel
theorem dX11_lose_80 : decode cX11_lose 80 = .ok (.ireturn, 1) := by decide +kernel
theorem dX11_correct_0 : decode cX11_correct 0 = .ok (.aload_n 0, 1) := by decide +kernel
theorem dX11_correct_1 : decode cX11_correct 1 = .ok (.getfield 34, 3) := by decide +kernel
theorem dX11_correct_4 : decode cX11_correct 4 = .ok (.iload_n 1, 1) := by decide +kernel
theorem dX11_correct_5 : decode cX11_correct 5 = .ok (.invokevirtual 208, 3) := by decide +kernel
theorem dX11_correct_8 : decode cX11_correct 8 = .ok (.astore 5, 2) := by decide +kernel
theorem dX11_correct_10 : decode cX11_correct 10 = .ok (.aload 5, 2) := by decide +kernel
theorem dX11_correct_12 : decode cX11_correct 12 = .ok (.ifnonnull 5, 3) := by decide +kernel
theorem dX11_correct_15 : decode cX11_correct 15 = .ok (.iconst (-1), 1) := by decide +kernel
theorem dX11_correct_16 : decode cX11_correct 16 = .ok (.ireturn, 1) := by decide +kernel
theorem dX11_correct_17 : decode cX11_correct 17 = .ok (.iload_n 2, 1) := by decide +kernel
theorem dX11_correct_18 : decode cX11_correct 18 = .ok (.iconst 0, 1) := by decide +kernel
theorem dX11_correct_19 : decode cX11_correct 19 = .ok (.sipush 3000, 3) := by decide +kernel
theorem dX11_correct_22 : decode cX11_correct 22 = .ok (.invokestatic 86, 3) := by decide +kernel
theorem dX11_correct_25 : decode cX11_correct 25 = .ok (.ifCond .eq 28, 3) := by decide +kernel
theorem dX11_correct_28 : decode cX11_correct 28 = .ok (.iload_n 3, 1) := by decide +kernel
theorem dX11_correct_29 : decode cX11_correct 29 = .ok (.iconst 1, 1) := by decide +kernel
theorem dX11_correct_30 : decode cX11_correct 30 = .ok (.sipush 2000, 3) := by decide +kernel
theorem dX11_correct_33 : decode cX11_correct 33 = .ok (.invokestatic 86, 3) := by decide +kernel
theorem dX11_correct_36 : decode cX11_correct 36 = .ok (.ifCond .eq 17, 3) := by decide +kernel
theorem dX11_correct_39 : decode cX11_correct 39 = .ok (.iload 4, 2) := by decide +kernel
theorem dX11_correct_41 : decode cX11_correct 41 = .ok (.sipush (-1000), 3) := by decide +kernel
theorem dX11_correct_44 : decode cX11_correct 44 = .ok (.sipush 1000, 3) := by decide +kernel
theorem dX11_correct_47 : decode cX11_correct 47 = .ok (.invokestatic 86, 3) := by decide +kernel
theorem dX11_correct_50 : decode cX11_correct 50 = .ok (.ifCond .ne 6, 3) := by decide +kernel
theorem dX11_correct_53 : decode cX11_correct 53 = .ok (.bipush (-2), 2) := by decide +kernel
theorem dX11_correct_55 : decode cX11_correct 55 = .ok (.ireturn, 1) := by decide +kernel
theorem dX11_correct_56 : decode cX11_correct 56 = .ok (.aload_n 0, 1) := by decide +kernel
theorem dX11_correct_57 : decode cX11_correct 57 = .ok (.getfield 34, 3) := by decide +kernel
theorem dX11_correct_60 : decode cX11_correct 60 = .ok (.getfield 186, 3) := by decide +kernel
theorem dX11_correct_63 : decode cX11_correct 63 = .ok (.getfield 190, 3) := by decide +kernel
theorem dX11_correct_66 : decode cX11_correct 66 = .ok (.bipush 20, 2) := by decide +kernel
theorem dX11_correct_68 : decode cX11_correct 68 = .ok (.if_icmp .lt 6, 3) := by decide +kernel
theorem dX11_correct_71 : decode cX11_correct 71 = .ok (.bipush (-4), 2) := by decide +kernel
theorem dX11_correct_73 : decode cX11_correct 73 = .ok (.ireturn, 1) := by decide +kernel
theorem dX11_correct_74 : decode cX11_correct 74 = .ok (.aload_n 0, 1) := by decide +kernel
theorem dX11_correct_75 : decode cX11_correct 75 = .ok (.getfield 59, 3) := by decide +kernel
theorem dX11_correct_78 : decode cX11_correct 78 = .ok (.aload 5, 2) := by decide +kernel
theorem dX11_correct_80 : decode cX11_correct 80 = .ok (.invokevirtual 223, 3) := by decide +kernel
theorem dX11_correct_83 : decode cX11_correct 83 = .ok (.aload_n 0, 1) := by decide +kernel
theorem dX11_correct_84 : decode cX11_correct 84 = .ok (.getfield 34, 3) := by decide +kernel
theorem dX11_correct_87 : decode cX11_correct 87 = .ok (.getfield 186, 3) := by decide +kernel
theorem dX11_correct_90 : decode cX11_correct 90 = .ok (.iload_n 1, 1) := by decide +kernel
theorem dX11_correct_91 : decode cX11_correct 91 = .ok (.iload_n 2, 1) := by decide +kernel
theorem dX11_correct_92 : decode cX11_correct 92 = .ok (.iload_n 3, 1) := by decide +kernel
theorem dX11_correct_93 : decode cX11_correct 93 = .ok (.iload 4, 2) := by decide +kernel
theorem dX11_correct_95 : decode cX11_correct 95 = .ok (.invokevirtual 222, 3) := by decide +kernel
theorem dX11_correct_98 : decode cX11_correct 98 = .ok (.aload_n 0, 1) := by decide +kernel
theorem dX11_correct_99 : decode cX11_correct 99 = .ok (.getfield 59, 3) := by decide +kernel
theorem dX11_correct_102 : decode cX11_correct 102 = .ok (.aload 5, 2) := by decide +kernel
theorem dX11_correct_104 : decode cX11_correct 104 = .ok (.invokevirtual 226, 3) := by decide +kernel
theorem dX11_correct_107 : decode cX11_correct 107 = .ok (.aload_n 0, 1) := by decide +kernel
theorem dX11_correct_108 : decode cX11_correct 108 = .ok (.getfield 59, 3) := by decide +kernel
theorem dX11_correct_111 : decode cX11_correct 111 = .ok (.getfield 229, 3) := by decide +kernel
theorem dX11_correct_114 : decode cX11_correct 114 = .ok (.ireturn, 1) := by decide +kernel
theorem dX11_other_0 : decode cX11_other 0 = .ok (.iload_n 1, 1) := by decide +kernel
theorem dX11_other_1 : decode cX11_other 1 = .ok (.iconst 0, 1) := by decide +kernel
theorem dX11_other_2 : decode cX11_other 2 = .ok (.aload_n 0, 1) := by decide +kernel
theorem dX11_other_3 : decode cX11_other 3 = .ok (.getfield 59, 3) := by decide +kernel
theorem dX11_other_6 : decode cX11_other 6 = .ok (.getfield 229, 3) := by decide +kernel
theorem dX11_other_9 : decode cX11_other 9 = .ok (.iconst 1, 1) := by decide +kernel
theorem dX11_other_10 : decode cX11_other 10 = .ok (.isub, 1) := by decide +kernel
theorem dX11_other_11 : decode cX11_other 11 = .ok (.invokestatic 86, 3) := by decide +kernel
theorem dX11_other_14 : decode cX11_other 14 = .ok (.ifCond .eq 14, 3) := by decide +kernel
theorem dX11_other_17 : decode cX11_other 17 = .ok (.aload_n 0, 1) := by decide +kernel
theorem dX11_other_18 : decode cX11_other 18 = .ok (.getfield 59, 3) := by decide +kernel
theorem dX11_other_21 : decode cX11_other 21 = .ok (.iload_n 1, 1) := by decide +kernel
theorem dX11_other_22 : decode cX11_other 22 = .ok (.invokevirtual 232, 3) := by decide +kernel
theorem dX11_other_25 : decode cX11_other 25 = .ok (.goto 4, 3) := by decide +kernel
theorem dX11_other_28 : decode cX11_other 28 = .ok (.iconst (-1), 1) := by decide +kernel
theorem dX11_other_29 : decode cX11_other 29 = .ok (.ireturn, 1) := by decide +kernel
theorem dX11_reading_0 : decode cX11_reading 0 = .ok (.aload_n 0, 1) := by decide +kernel
theorem dX11_reading_1 : decode cX11_reading 1 = .ok (.getfield 34, 3) := by decide +kernel
theorem dX11_reading_4 : decode cX11_reading 4 = .ok (.iload_n 1, 1) := by decide +kernel
theorem dX11_reading_5 : decode cX11_reading 5 = .ok (.invokevirtual 208, 3) := by decide +kernel
theorem dX11_reading_8 : decode cX11_reading 8 = .ok (.astore_n 3, 1) := by decide +kernel
theorem dX11_reading_9 : decode cX11_reading 9 = .ok (.aload_n 3, 1) := by decide +kernel
theorem dX11_reading_10 : decode cX11_reading 10 = .ok (.ifnull 26, 3) := by decide +kernel
theorem dX11_reading_13 : decode cX11_reading 13 = .ok (.iload_n 2, 1) := by decide +kernel
theorem dX11_reading_14 : decode cX11_reading 14 = .ok (.iconst 0, 1) := by decide +kernel
theorem dX11_reading_15 : decode cX11_reading 15 = .ok (.aload_n 0, 1) := by decide +kernel
theorem dX11_reading_16 : decode cX11_reading 16 = .ok (.getfield 18, 3) := by decide +kernel
theorem dX11_reading_19 : decode cX11_reading 19 = .ok (.getfield 159, 3) := by decide +kernel
theorem dX11_reading_22 : decode cX11_reading 22 = .ok (.invokestatic 86, 3) := by decide +kernel
theorem dX11_reading_25 : decode cX11_reading 25 = .ok (.ifCond .eq 11, 3) := by decide +kernel
theorem dX11_reading_28 : decode cX11_reading 28 = .ok (.aload_n 3, 1) := by decide +kernel
theorem dX11_reading_29 : decode cX11_reading 29 = .ok (.iload_n 2, 1) := by decide +kernel
theorem dX11_reading_30 : decode cX11_reading 30 = .ok (.invokevirtual 235, 3) := by decide +kernel
theorem dX11_reading_33 : decode cX11_reading 33 = .ok (.ifCond .ne 7, 3) := by decide +kernel
theorem dX11_reading_36 : decode cX11_reading 36 = .ok (.ldc2_w 102, 3) := by decide +kernel
theorem dX11_reading_39 : decode cX11_reading 39 = .ok (.lreturn, 1) := by decide +kernel
theorem dX11_reading_40 : decode cX11_reading 40 = .ok (.aload_n 0, 1) := by decide +kernel
theorem dX11_reading_41 : decode cX11_reading 41 = .ok (.getfield 34, 3) := by decide +kernel
theorem dX11_reading_44 : decode cX11_reading 44 = .ok (.aload_n 3, 1) := by decide +kernel
theorem dX11_reading_45 : decode cX11_reading 45 = .ok (.iload_n 2, 1) := by decide +kernel
theorem dX11_reading_46 : decode cX11_reading 46 = .ok (.invokevirtual 238, 3) := by decide +kernel
theorem dX11_reading_49 : decode cX11_reading 49 = .ok (.lreturn, 1) := by decide +kernel
theorem dX11_state_0 : decode cX11_state 0 = .ok (.aload_n 0, 1) := by decide +kernel
theorem dX11_state_1 : decode cX11_state 1 = .ok (.getfield 34, 3) := by decide +kernel
theorem dX11_state_4 : decode cX11_state 4 = .ok (.iload_n 1, 1) := by decide +kernel
theorem dX11_state_5 : decode cX11_state 5 = .ok (.invokevirtual 208, 3) := by decide +kernel
theorem dX11_state_8 : decode cX11_state 8 = .ok (.astore_n 3, 1) := by decide +kernel
theorem dX11_state_9 : decode cX11_state 9 = .ok (.aload_n 3, 1) := by decide +kernel
theorem dX11_state_10 : decode cX11_state 10 = .ok (.ifnull 26, 3) := by decide +kernel
theorem dX11_state_13 : decode cX11_state 13 = .ok (.iload_n 2, 1) := by decide +kernel
theorem dX11_state_14 : decode cX11_state 14 = .ok (.iconst 0, 1) := by decide +kernel
theorem dX11_state_15 : decode cX11_state 15 = .ok (.aload_n 0, 1) := by decide +kernel
theorem dX11_state_16 : decode cX11_state 16 = .ok (.getfield 18, 3) := by decide +kernel
theorem dX11_state_19 : decode cX11_state 19 = .ok (.getfield 159, 3) := by decide +kernel
theorem dX11_state_22 : decode cX11_state 22 = .ok (.invokestatic 86, 3) := by decide +kernel
theorem dX11_state_25 : decode cX11_state 25 = .ok (.ifCond .eq 11, 3) := by decide +kernel
theorem dX11_state_28 : decode cX11_state 28 = .ok (.aload_n 3, 1) := by decide +kernel
theorem dX11_state_29 : decode cX11_state 29 = .ok (.iload_n 2, 1) := by decide +kernel
theorem dX11_state_30 : decode cX11_state 30 = .ok (.invokevirtual 235, 3) := by decide +kernel
theorem dX11_state_33 : decode cX11_state 33 = .ok (.ifCond .ne 5, 3) := by decide +kernel
theorem dX11_state_36 : decode cX11_state 36 = .ok (.iconst (-1), 1) := by decide +kernel
theorem dX11_state_37 : decode cX11_state 37 = .ok (.ireturn, 1) := by decide +kernel
theorem dX11_state_38 : decode cX11_state 38 = .ok (.aload_n 0, 1) := by decide +kernel
theorem dX11_state_39 : decode cX11_state 39 = .ok (.getfield 34, 3) := by decide +kernel
theorem dX11_state_42 : decode cX11_state 42 = .ok (.aload_n 3, 1) := by decide +kernel
theorem dX11_state_43 : decode cX11_state 43 = .ok (.iload_n 2, 1) := by decide +kernel
theorem dX11_state_44 : decode cX11_state 44 = .ok (.invokevirtual 242, 3) := by decide +kernel
theorem dX11_state_47 : decode cX11_state 47 = .ok (.ifCond .eq 5, 3) := by decide +kernel
theorem dX11_state_50 : decode cX11_state 50 = .ok (.iconst 2, 1) := by decide +kernel
theorem dX11_state_51 : decode cX11_state 51 = .ok (.ireturn, 1) := by decide +kernel
theorem dX11_state_52 : decode cX11_state 52 = .ok (.aload_n 0, 1) := by decide +kernel
theorem dX11_state_53 : decode cX11_state 53 = .ok (.getfield 34, 3) := by decide +kernel
theorem dX11_state_56 : decode cX11_state 56 = .ok (.aload_n 3, 1) := by decide +kernel
theorem dX11_state_57 : decode cX11_state 57 = .ok (.iload_n 2, 1) := by decide +kernel
theorem dX11_state_58 : decode cX11_state 58 = .ok (.invokevirtual 246, 3) := by decide +kernel
theorem dX11_state_61 : decode cX11_state 61 = .ok (.ifCond .eq 7, 3) := by decide +kernel
theorem dX11_state_64 : decode cX11_state 64 = .ok (.iconst 1, 1) := by decide +kernel
theorem dX11_state_65 : decode cX11_state 65 = .ok (.goto 4, 3) := by decide +kernel
theorem dX11_state_68 : decode cX11_state 68 = .ok (.iconst 0, 1) := by decide +kernel
theorem dX11_state_69 : decode cX11_state 69 = .ok (.ireturn, 1) := by decide +kernel
theorem dX11_report_0 : decode cX11_report 0 = .ok (.aload_n 0, 1) := by decide +kernel
theorem dX11_report_1 : decode cX11_report 1 = .ok (.getfield 34, 3) := by decide +kernel
theorem dX11_report_4 : decode cX11_report 4 = .ok (.iload_n 2, 1) := by decide +kernel
theorem dX11_report_5 : decode cX11_report 5 = .ok (.invokevirtual 208, 3) := by decide +kernel
theorem dX11_report_8 : decode cX11_report 8 = .ok (.astore 4, 2) := by decide +kernel
theorem dX11_report_10 : decode cX11_report 10 = .ok (.aload_n 0, 1) := by decide +kernel
theorem dX11_report_11 : decode cX11_report 11 = .ok (.getfield 41, 3) := by decide +kernel
theorem dX11_report_14 : decode cX11_report 14 = .ok (.iload_n 1, 1) := by decide +kernel
theorem dX11_report_15 : decode cX11_report 15 = .ok (.invokevirtual 196, 3) := by decide +kernel
theorem dX11_report_18 : decode cX11_report 18 = .ok (.ifCond .eq 18, 3) := by decide +kernel
theorem dX11_report_21 : decode cX11_report 21 = .ok (.aload 4, 2) := by decide +kernel
theorem dX11_report_23 : decode cX11_report 23 = .ok (.ifnull 13, 3) := by decide +kernel
theorem dX11_report_26 : decode cX11_report 26 = .ok (.iload_n 3, 1) := by decide +kernel
theorem dX11_report_27 : decode cX11_report 27 = .ok (.iconst 0, 1) := by decide +kernel
theorem dX11_report_28 : decode cX11_report 28 = .ok (.bipush 7, 2) := by decide +kernel
theorem dX11_report_30 : decode cX11_report 30 = .ok (.invokestatic 86, 3) := by decide +kernel
theorem dX11_report_33 : decode cX11_report 33 = .ok (.ifCond .ne 7, 3) := by decide +kernel
theorem dX11_report_36 : decode cX11_report 36 = .ok (.ldc2_w 102, 3) := by decide +kernel
theorem dX11_report_39 : decode cX11_report 39 = .ok (.lreturn, 1) := by decide +kernel
theorem dX11_report_40 : decode cX11_report 40 = .ok (.aload_n 0, 1) := by decide +kernel
theorem dX11_report_41 : decode cX11_report 41 = .ok (.getfield 59, 3) := by decide +kernel
theorem dX11_report_44 : decode cX11_report 44 = .ok (.aload 4, 2) := by decide +kernel
theorem dX11_report_46 : decode cX11_report 46 = .ok (.iload_n 1, 1) := by decide +kernel
theorem dX11_report_47 : decode cX11_report 47 = .ok (.invokevirtual 249, 3) := by decide +kernel
theorem dX11_report_50 : decode cX11_report 50 = .ok (.aload_n 0, 1) := by decide +kernel
theorem dX11_report_51 : decode cX11_report 51 = .ok (.getfield 59, 3) := by decide +kernel
theorem dX11_report_54 : decode cX11_report 54 = .ok (.iload_n 3, 1) := by decide +kernel
theorem dX11_report_55 : decode cX11_report 55 = .ok (.invokevirtual 253, 3) := by decide +kernel
theorem dX11_report_58 : decode cX11_report 58 = .ok (.lreturn, 1) := by decide +kernel
theorem dX11_valid_0 : decode cX11_valid 0 = .ok (.aload_n 0, 1) := by decide +kernel
theorem dX11_valid_1 : decode cX11_valid 1 = .ok (.getfield 34, 3) := by decide +kernel
theorem dX11_valid_4 : decode cX11_valid 4 = .ok (.iload_n 1, 1) := by decide +kernel
theorem dX11_valid_5 : decode cX11_valid 5 = .ok (.invokevirtual 208, 3) := by decide +kernel
theorem dX11_valid_8 : decode cX11_valid 8 = .ok (.astore_n 2, 1) := by decide +kernel
theorem dX11_valid_9 : decode cX11_valid 9 = .ok (.aload_n 2, 1) := by decide +kernel
theorem dX11_valid_10 : decode cX11_valid 10 = .ok (.ifnonnull 5, 3) := by decide +kernel
theorem dX11_valid_13 : decode cX11_valid 13 = .ok (.iconst (-1), 1) := by decide +kernel
theorem dX11_valid_14 : decode cX11_valid 14 = .ok (.ireturn, 1) := by decide +kernel
theorem dX11_valid_15 : decode cX11_valid 15 = .ok (.aload_n 0, 1) := by decide +kernel
theorem dX11_valid_16 : decode cX11_valid 16 = .ok (.getfield 68, 3) := by decide +kernel
theorem dX11_valid_19 : decode cX11_valid 19 = .ok (.aload_n 2, 1) := by decide +kernel
theorem dX11_valid_20 : decode cX11_valid 20 = .ok (.invokevirtual 257, 3) := by decide +kernel
theorem dX11_valid_23 : decode cX11_valid 23 = .ok (.aload_n 0, 1) := by decide +kernel
theorem dX11_valid_24 : decode cX11_valid 24 = .ok (.getfield 68, 3) := by decide +kernel
theorem dX11_valid_27 : decode cX11_valid 27 = .ok (.invokevirtual 259, 3) := by decide +kernel
theorem dX11_valid_30 : decode cX11_valid 30 = .ok (.ireturn, 1) := by decide +kernel
theorem dX11_law_0 : decode cX11_law 0 = .ok (.aload_n 0, 1) := by decide +kernel
theorem dX11_law_1 : decode cX11_law 1 = .ok (.getfield 34, 3) := by decide +kernel
theorem dX11_law_4 : decode cX11_law 4 = .ok (.iload_n 1, 1) := by decide +kernel
theorem dX11_law_5 : decode cX11_law 5 = .ok (.invokevirtual 208, 3) := by decide +kernel
theorem dX11_law_8 : decode cX11_law 8 = .ok (.astore_n 3, 1) := by decide +kernel
theorem dX11_law_9 : decode cX11_law 9 = .ok (.aload_n 3, 1) := by decide +kernel
theorem dX11_law_10 : decode cX11_law 10 = .ok (.ifnonnull 7, 3) := by decide +kernel
theorem dX11_law_13 : decode cX11_law 13 = .ok (.ldc2_w 102, 3) := by decide +kernel
theorem dX11_law_16 : decode cX11_law 16 = .ok (.lreturn, 1) := by decide +kernel
theorem dX11_law_17 : decode cX11_law 17 = .ok (.aload_n 0, 1) := by decide +kernel
theorem dX11_law_18 : decode cX11_law 18 = .ok (.getfield 68, 3) := by decide +kernel
theorem dX11_law_21 : decode cX11_law 21 = .ok (.aload_n 3, 1) := by decide +kernel
theorem dX11_law_22 : decode cX11_law 22 = .ok (.invokevirtual 257, 3) := by decide +kernel
theorem dX11_law_25 : decode cX11_law 25 = .ok (.iload_n 2, 1) := by decide +kernel
theorem dX11_law_26 : decode cX11_law 26 = .ok (.tableswitch 74 0 4 #[34, 42, 50, 58, 66], 34) := by decide +kernel
theorem dX11_law_60 : decode cX11_law 60 = .ok (.aload_n 0, 1) := by decide +kernel
theorem dX11_law_61 : decode cX11_law 61 = .ok (.getfield 68, 3) := by decide +kernel
theorem dX11_law_64 : decode cX11_law 64 = .ok (.getfield 263, 3) := by decide +kernel
theorem dX11_law_67 : decode cX11_law 67 = .ok (.lreturn, 1) := by decide +kernel
theorem dX11_law_68 : decode cX11_law 68 = .ok (.aload_n 0, 1) := by decide +kernel
theorem dX11_law_69 : decode cX11_law 69 = .ok (.getfield 68, 3) := by decide +kernel
theorem dX11_law_72 : decode cX11_law 72 = .ok (.invokevirtual 267, 3) := by decide +kernel
theorem dX11_law_75 : decode cX11_law 75 = .ok (.lreturn, 1) := by decide +kernel
theorem dX11_law_76 : decode cX11_law 76 = .ok (.aload_n 0, 1) := by decide +kernel
theorem dX11_law_77 : decode cX11_law 77 = .ok (.getfield 68, 3) := by decide +kernel
theorem dX11_law_80 : decode cX11_law 80 = .ok (.invokevirtual 271, 3) := by decide +kernel
theorem dX11_law_83 : decode cX11_law 83 = .ok (.lreturn, 1) := by decide +kernel
theorem dX11_law_84 : decode cX11_law 84 = .ok (.aload_n 0, 1) := by decide +kernel
theorem dX11_law_85 : decode cX11_law 85 = .ok (.getfield 68, 3) := by decide +kernel
theorem dX11_law_88 : decode cX11_law 88 = .ok (.getfield 274, 3) := by decide +kernel
theorem dX11_law_91 : decode cX11_law 91 = .ok (.lreturn, 1) := by decide +kernel
theorem dX11_law_92 : decode cX11_law 92 = .ok (.aload_n 0, 1) := by decide +kernel
theorem dX11_law_93 : decode cX11_law 93 = .ok (.getfield 68, 3) := by decide +kernel
theorem dX11_law_96 : decode cX11_law 96 = .ok (.getfield 277, 3) := by decide +kernel
theorem dX11_law_99 : decode cX11_law 99 = .ok (.lreturn, 1) := by decide +kernel
theorem dX11_law_100 : decode cX11_law 100 = .ok (.ldc2_w 102, 3) := by decide +kernel
theorem dX11_law_103 : decode cX11_law 103 = .ok (.lreturn, 1) := by decide +kernel
theorem dX11_sheet_0 : decode cX11_sheet 0 = .ok (.aload_n 0, 1) := by decide +kernel
theorem dX11_sheet_1 : decode cX11_sheet 1 = .ok (.iconst 0, 1) := by decide +kernel
theorem dX11_sheet_2 : decode cX11_sheet 2 = .ok (.putfield 11, 3) := by decide +kernel
theorem dX11_sheet_5 : decode cX11_sheet 5 = .ok (.aload_n 0, 1) := by decide +kernel
theorem dX11_sheet_6 : decode cX11_sheet 6 = .ok (.iload_n 1, 1) := by decide +kernel
theorem dX11_sheet_7 : decode cX11_sheet 7 = .ok (.invokevirtual 122, 3) := by decide +kernel
theorem dX11_sheet_10 : decode cX11_sheet 10 = .ok (.astore 4, 2) := by decide +kernel
theorem dX11_sheet_12 : decode cX11_sheet 12 = .ok (.aload 4, 2) := by decide +kernel
theorem dX11_sheet_14 : decode cX11_sheet 14 = .ok (.ifnonnull 5, 3) := by decide +kernel
theorem dX11_sheet_17 : decode cX11_sheet 17 = .ok (.iconst (-1), 1) := by decide +kernel
theorem dX11_sheet_18 : decode cX11_sheet 18 = .ok (.ireturn, 1) := by decide +kernel
theorem dX11_sheet_19 : decode cX11_sheet 19 = .ok (.iload_n 2, 1) := by decide +kernel
theorem dX11_sheet_20 : decode cX11_sheet 20 = .ok (.iconst 0, 1) := by decide +kernel
theorem dX11_sheet_21 : decode cX11_sheet 21 = .ok (.iconst 2, 1) := by decide +kernel
theorem dX11_sheet_22 : decode cX11_sheet 22 = .ok (.invokestatic 86, 3) := by decide +kernel
theorem dX11_sheet_25 : decode cX11_sheet 25 = .ok (.ifCond .eq 9, 3) := by decide +kernel
theorem dX11_sheet_28 : decode cX11_sheet 28 = .ok (.iload_n 3, 1) := by decide +kernel
theorem dX11_sheet_29 : decode cX11_sheet 29 = .ok (.bipush 40, 2) := by decide +kernel
theorem dX11_sheet_31 : decode cX11_sheet 31 = .ok (.if_icmp .le 6, 3) := by decide +kernel
theorem dX11_sheet_34 : decode cX11_sheet 34 = .ok (.bipush (-2), 2) := by decide +kernel
theorem dX11_sheet_36 : decode cX11_sheet 36 = .ok (.ireturn, 1) := by decide +kernel
theorem dX11_sheet_37 : decode cX11_sheet 37 = .ok (.iload_n 3, 1) := by decide +kernel
theorem dX11_sheet_38 : decode cX11_sheet 38 = .ok (.ifCond .ge 9, 3) := by decide +kernel
theorem dX11_sheet_41 : decode cX11_sheet 41 = .ok (.aload_n 0, 1) := by decide +kernel
theorem dX11_sheet_42 : decode cX11_sheet 42 = .ok (.iconst 4, 1) := by decide +kernel
theorem dX11_sheet_43 : decode cX11_sheet 43 = .ok (.invokevirtual 135, 3) := by decide +kernel
theorem dX11_sheet_46 : decode cX11_sheet 46 = .ok (.ireturn, 1) := by decide +kernel
theorem dX11_sheet_47 : decode cX11_sheet 47 = .ok (.aload 4, 2) := by decide +kernel
theorem dX11_sheet_49 : decode cX11_sheet 49 = .ok (.iload_n 2, 1) := by decide +kernel
theorem dX11_sheet_50 : decode cX11_sheet 50 = .ok (.iload_n 3, 1) := by decide +kernel
theorem dX11_sheet_51 : decode cX11_sheet 51 = .ok (.invokevirtual 280, 3) := by decide +kernel
theorem dX11_sheet_54 : decode cX11_sheet 54 = .ok (.iconst 1, 1) := by decide +kernel
theorem dX11_sheet_55 : decode cX11_sheet 55 = .ok (.ireturn, 1) := by decide +kernel
theorem dX11_drop_0 : decode cX11_drop 0 = .ok (.aload_n 0, 1) := by decide +kernel
theorem dX11_drop_1 : decode cX11_drop 1 = .ok (.iload_n 1, 1) := by decide +kernel
theorem dX11_drop_2 : decode cX11_drop 2 = .ok (.invokevirtual 122, 3) := by decide +kernel
theorem dX11_drop_5 : decode cX11_drop 5 = .ok (.astore_n 2, 1) := by decide +kernel
theorem dX11_drop_6 : decode cX11_drop 6 = .ok (.aload_n 2, 1) := by decide +kernel
theorem dX11_drop_7 : decode cX11_drop 7 = .ok (.ifnonnull 5, 3) := by decide +kernel
theorem dX11_drop_10 : decode cX11_drop 10 = .ok (.iconst (-1), 1) := by decide +kernel
theorem dX11_drop_11 : decode cX11_drop 11 = .ok (.ireturn, 1) := by decide +kernel
theorem dX11_drop_12 : decode cX11_drop 12 = .ok (.aload_n 2, 1) := by decide +kernel
theorem dX11_drop_13 : decode cX11_drop 13 = .ok (.getfield 283, 3) := by decide +kernel
theorem dX11_drop_16 : decode cX11_drop 16 = .ok (.ifCond .eq 7, 3) := by decide +kernel
theorem dX11_drop_19 : decode cX11_drop 19 = .ok (.iconst 1, 1) := by decide +kernel
theorem dX11_drop_20 : decode cX11_drop 20 = .ok (.goto 4, 3) := by decide +kernel
theorem dX11_drop_23 : decode cX11_drop 23 = .ok (.iconst 0, 1) := by decide +kernel
theorem dX11_drop_24 : decode cX11_drop 24 = .ok (.istore_n 3, 1) := by decide +kernel
theorem dX11_drop_25 : decode cX11_drop 25 = .ok (.aload_n 2, 1) := by decide +kernel
theorem dX11_drop_26 : decode cX11_drop 26 = .ok (.iconst 0, 1) := by decide +kernel
theorem dX11_drop_27 : decode cX11_drop 27 = .ok (.putfield 283, 3) := by decide +kernel
theorem dX11_drop_30 : decode cX11_drop 30 = .ok (.iload_n 3, 1) := by decide +kernel
theorem dX11_drop_31 : decode cX11_drop 31 = .ok (.ireturn, 1) := by decide +kernel
theorem dX11_put_0 : decode cX11_put 0 = .ok (.aload_n 0, 1) := by decide +kernel
theorem dX11_put_1 : decode cX11_put 1 = .ok (.iconst 0, 1) := by decide +kernel
theorem dX11_put_2 : decode cX11_put 2 = .ok (.putfield 11, 3) := by decide +kernel
theorem dX11_put_5 : decode cX11_put 5 = .ok (.aload_n 0, 1) := by decide +kernel
theorem dX11_put_6 : decode cX11_put 6 = .ok (.iload_n 1, 1) := by decide +kernel
theorem dX11_put_7 : decode cX11_put 7 = .ok (.invokevirtual 122, 3) := by decide +kernel
theorem dX11_put_10 : decode cX11_put 10 = .ok (.astore 4, 2) := by decide +kernel
theorem dX11_put_12 : decode cX11_put 12 = .ok (.aload 4, 2) := by decide +kernel
theorem dX11_put_14 : decode cX11_put 14 = .ok (.ifnonnull 5, 3) := by decide +kernel
theorem dX11_put_17 : decode cX11_put 17 = .ok (.iconst (-1), 1) := by decide +kernel
theorem dX11_put_18 : decode cX11_put 18 = .ok (.ireturn, 1) := by decide +kernel
theorem dX11_put_19 : decode cX11_put 19 = .ok (.aload 4, 2) := by decide +kernel
theorem dX11_put_21 : decode cX11_put 21 = .ok (.getfield 283, 3) := by decide +kernel
theorem dX11_put_24 : decode cX11_put 24 = .ok (.ifCond .eq 13, 3) := by decide +kernel
theorem dX11_put_27 : decode cX11_put 27 = .ok (.aload 4, 2) := by decide +kernel
theorem dX11_put_29 : decode cX11_put 29 = .ok (.iload_n 2, 1) := by decide +kernel
theorem dX11_put_30 : decode cX11_put 30 = .ok (.lconst 1, 1) := by decide +kernel
theorem dX11_put_31 : decode cX11_put 31 = .ok (.invokevirtual 131, 3) := by decide +kernel
theorem dX11_put_34 : decode cX11_put 34 = .ok (.goto 4, 3) := by decide +kernel
theorem dX11_put_37 : decode cX11_put 37 = .ok (.iconst 1, 1) := by decide +kernel
theorem dX11_put_38 : decode cX11_put 38 = .ok (.istore 5, 2) := by decide +kernel
theorem dX11_put_40 : decode cX11_put 40 = .ok (.iload 5, 2) := by decide +kernel
theorem dX11_put_42 : decode cX11_put 42 = .ok (.ifCond .eq 10, 3) := by decide +kernel
theorem dX11_put_45 : decode cX11_put 45 = .ok (.aload_n 0, 1) := by decide +kernel
theorem dX11_put_46 : decode cX11_put 46 = .ok (.iload 5, 2) := by decide +kernel
theorem dX11_put_48 : decode cX11_put 48 = .ok (.invokevirtual 135, 3) := by decide +kernel
theorem dX11_put_51 : decode cX11_put 51 = .ok (.ireturn, 1) := by decide +kernel
theorem dX11_put_52 : decode cX11_put 52 = .ok (.aload 4, 2) := by decide +kernel
theorem dX11_put_54 : decode cX11_put 54 = .ok (.iload_n 2, 1) := by decide +kernel
theorem dX11_put_55 : decode cX11_put 55 = .ok (.iload_n 3, 1) := by decide +kernel
theorem dX11_put_56 : decode cX11_put 56 = .ok (.invokevirtual 286, 3) := by decide +kernel
theorem dX11_put_59 : decode cX11_put 59 = .ok (.iconst 1, 1) := by decide +kernel
theorem dX11_put_60 : decode cX11_put 60 = .ok (.ireturn, 1) := by decide +kernel
theorem dX11_at_0 : decode cX11_at 0 = .ok (.aload_n 0, 1) := by decide +kernel
theorem dX11_at_1 : decode cX11_at 1 = .ok (.iconst 0, 1) := by decide +kernel
theorem dX11_at_2 : decode cX11_at 2 = .ok (.putfield 11, 3) := by decide +kernel
theorem dX11_at_5 : decode cX11_at 5 = .ok (.aload_n 0, 1) := by decide +kernel
theorem dX11_at_6 : decode cX11_at 6 = .ok (.iload_n 1, 1) := by decide +kernel
theorem dX11_at_7 : decode cX11_at 7 = .ok (.invokevirtual 122, 3) := by decide +kernel
theorem dX11_at_10 : decode cX11_at 10 = .ok (.astore 4, 2) := by decide +kernel
theorem dX11_at_12 : decode cX11_at 12 = .ok (.aload 4, 2) := by decide +kernel
theorem dX11_at_14 : decode cX11_at 14 = .ok (.ifnull 12, 3) := by decide +kernel
theorem dX11_at_17 : decode cX11_at 17 = .ok (.iload_n 3, 1) := by decide +kernel
theorem dX11_at_18 : decode cX11_at 18 = .ok (.iconst 0, 1) := by decide +kernel
theorem dX11_at_19 : decode cX11_at 19 = .ok (.iconst 2, 1) := by decide +kernel
theorem dX11_at_20 : decode cX11_at 20 = .ok (.invokestatic 86, 3) := by decide +kernel
theorem dX11_at_23 : decode cX11_at 23 = .ok (.ifCond .ne 7, 3) := by decide +kernel
theorem dX11_at_26 : decode cX11_at 26 = .ok (.ldc2_w 102, 3) := by decide +kernel
theorem dX11_at_29 : decode cX11_at 29 = .ok (.lreturn, 1) := by decide +kernel
theorem dX11_at_30 : decode cX11_at 30 = .ok (.aload 4, 2) := by decide +kernel
theorem dX11_at_32 : decode cX11_at 32 = .ok (.iload_n 3, 1) := by decide +kernel
theorem dX11_at_33 : decode cX11_at 33 = .ok (.invokevirtual 126, 3) := by decide +kernel
theorem dX11_at_36 : decode cX11_at 36 = .ok (.istore 5, 2) := by decide +kernel
theorem dX11_at_38 : decode cX11_at 38 = .ok (.iload 5, 2) := by decide +kernel
theorem dX11_at_40 : decode cX11_at 40 = .ok (.ifCond .ne 12, 3) := by decide +kernel
theorem dX11_at_43 : decode cX11_at 43 = .ok (.aload 4, 2) := by decide +kernel
theorem dX11_at_45 : decode cX11_at 45 = .ok (.iload_n 2, 1) := by decide +kernel
theorem dX11_at_46 : decode cX11_at 46 = .ok (.lconst 1, 1) := by decide +kernel
theorem dX11_at_47 : decode cX11_at 47 = .ok (.invokevirtual 131, 3) := by decide +kernel
theorem dX11_at_50 : decode cX11_at 50 = .ok (.istore 5, 2) := by decide +kernel
theorem dX11_at_52 : decode cX11_at 52 = .ok (.iload 5, 2) := by decide +kernel
theorem dX11_at_54 : decode cX11_at 54 = .ok (.ifCond .eq 13, 3) := by decide +kernel
theorem dX11_at_57 : decode cX11_at 57 = .ok (.aload_n 0, 1) := by decide +kernel
theorem dX11_at_58 : decode cX11_at 58 = .ok (.iload 5, 2) := by decide +kernel
theorem dX11_at_60 : decode cX11_at 60 = .ok (.putfield 11, 3) := by decide +kernel
theorem dX11_at_63 : decode cX11_at 63 = .ok (.ldc2_w 102, 3) := by decide +kernel
theorem dX11_at_66 : decode cX11_at 66 = .ok (.lreturn, 1) := by decide +kernel
theorem dX11_at_67 : decode cX11_at 67 = .ok (.aload 4, 2) := by decide +kernel
theorem dX11_at_69 : decode cX11_at 69 = .ok (.iload_n 2, 1) := by decide +kernel
theorem dX11_at_70 : decode cX11_at 70 = .ok (.invokevirtual 289, 3) := by decide +kernel
theorem dX11_at_73 : decode cX11_at 73 = .ok (.i2l, 1) := by decide +kernel
theorem dX11_at_74 : decode cX11_at 74 = .ok (.lreturn, 1) := by decide +kernel
theorem dX11_tell_0 : decode cX11_tell 0 = .ok (.aload_n 0, 1) := by decide +kernel
theorem dX11_tell_1 : decode cX11_tell 1 = .ok (.getfield 25, 3) := by decide +kernel
theorem dX11_tell_4 : decode cX11_tell 4 = .ok (.iload_n 1, 1) := by decide +kernel
theorem dX11_tell_5 : decode cX11_tell 5 = .ok (.invokevirtual 146, 3) := by decide +kernel
theorem dX11_tell_8 : decode cX11_tell 8 = .ok (.ifCond .ne 5, 3) := by decide +kernel
theorem dX11_tell_11 : decode cX11_tell 11 = .ok (.iconst (-1), 1) := by decide +kernel
theorem dX11_tell_12 : decode cX11_tell 12 = .ok (.ireturn, 1) := by decide +kernel
theorem dX11_tell_13 : decode cX11_tell 13 = .ok (.aload_n 0, 1) := by decide +kernel
theorem dX11_tell_14 : decode cX11_tell 14 = .ok (.getfield 75, 3) := by decide +kernel
theorem dX11_tell_17 : decode cX11_tell 17 = .ok (.aload_n 0, 1) := by decide +kernel
theorem dX11_tell_18 : decode cX11_tell 18 = .ok (.getfield 25, 3) := by decide +kernel
theorem dX11_tell_21 : decode cX11_tell 21 = .ok (.iload_n 1, 1) := by decide +kernel
theorem dX11_tell_22 : decode cX11_tell 22 = .ok (.iconst 0, 1) := by decide +kernel
theorem dX11_tell_23 : decode cX11_tell 23 = .ok (.invokevirtual 150, 3) := by decide +kernel
theorem dX11_tell_26 : decode cX11_tell 26 = .ok (.aload_n 0, 1) := by decide +kernel
theorem dX11_tell_27 : decode cX11_tell 27 = .ok (.getfield 25, 3) := by decide +kernel
theorem dX11_tell_30 : decode cX11_tell 30 = .ok (.iload_n 1, 1) := by decide +kernel
theorem dX11_tell_31 : decode cX11_tell 31 = .ok (.iconst 1, 1) := by decide +kernel
theorem dX11_tell_32 : decode cX11_tell 32 = .ok (.invokevirtual 150, 3) := by decide +kernel
theorem dX11_tell_35 : decode cX11_tell 35 = .ok (.aload_n 0, 1) := by decide +kernel
theorem dX11_tell_36 : decode cX11_tell 36 = .ok (.getfield 25, 3) := by decide +kernel
theorem dX11_tell_39 : decode cX11_tell 39 = .ok (.iload_n 1, 1) := by decide +kernel
theorem dX11_tell_40 : decode cX11_tell 40 = .ok (.iconst 3, 1) := by decide +kernel
theorem dX11_tell_41 : decode cX11_tell 41 = .ok (.invokevirtual 150, 3) := by decide +kernel
theorem dX11_tell_44 : decode cX11_tell 44 = .ok (.invokevirtual 291, 3) := by decide +kernel
theorem dX11_tell_47 : decode cX11_tell 47 = .ok (.ireturn, 1) := by decide +kernel
theorem dX11_draw_0 : decode cX11_draw 0 = .ok (.aload_n 0, 1) := by decide +kernel
theorem dX11_draw_1 : decode cX11_draw 1 = .ok (.getfield 25, 3) := by decide +kernel
theorem dX11_draw_4 : decode cX11_draw 4 = .ok (.iload_n 1, 1) := by decide +kernel
theorem dX11_draw_5 : decode cX11_draw 5 = .ok (.invokevirtual 146, 3) := by decide +kernel
theorem dX11_draw_8 : decode cX11_draw 8 = .ok (.ifCond .ne 5, 3) := by decide +kernel
theorem dX11_draw_11 : decode cX11_draw 11 = .ok (.iconst (-1), 1) := by decide +kernel
theorem dX11_draw_12 : decode cX11_draw 12 = .ok (.ireturn, 1) := by decide +kernel
theorem dX11_draw_13 : decode cX11_draw 13 = .ok (.aload_n 0, 1) := by decide +kernel
theorem dX11_draw_14 : decode cX11_draw 14 = .ok (.getfield 75, 3) := by decide +kernel
theorem dX11_draw_17 : decode cX11_draw 17 = .ok (.aload_n 0, 1) := by decide +kernel
theorem dX11_draw_18 : decode cX11_draw 18 = .ok (.getfield 25, 3) := by decide +kernel
theorem dX11_draw_21 : decode cX11_draw 21 = .ok (.iload_n 1, 1) := by decide +kernel
theorem dX11_draw_22 : decode cX11_draw 22 = .ok (.iconst 0, 1) := by decide +kernel
theorem dX11_draw_23 : decode cX11_draw 23 = .ok (.invokevirtual 150, 3) := by decide +kernel
theorem dX11_draw_26 : decode cX11_draw 26 = .ok (.invokevirtual 295, 3) := by decide +kernel
theorem dX11_draw_29 : decode cX11_draw 29 = .ok (.ireturn, 1) := by decide +kernel
theorem dX11_as_0 : decode cX11_as 0 = .ok (.aload_n 0, 1) := by decide +kernel
theorem dX11_as_1 : decode cX11_as 1 = .ok (.iconst 0, 1) := by decide +kernel
theorem dX11_as_2 : decode cX11_as 2 = .ok (.putfield 11, 3) := by decide +kernel
theorem dX11_as_5 : decode cX11_as 5 = .ok (.aload_n 0, 1) := by decide +kernel
theorem dX11_as_6 : decode cX11_as 6 = .ok (.getfield 25, 3) := by decide +kernel
theorem dX11_as_9 : decode cX11_as 9 = .ok (.iload_n 1, 1) := by decide +kernel
theorem dX11_as_10 : decode cX11_as 10 = .ok (.invokevirtual 146, 3) := by decide +kernel
theorem dX11_as_13 : decode cX11_as 13 = .ok (.ifCond .ne 5, 3) := by decide +kernel
theorem dX11_as_16 : decode cX11_as 16 = .ok (.iconst (-1), 1) := by decide +kernel
theorem dX11_as_17 : decode cX11_as 17 = .ok (.ireturn, 1) := by decide +kernel
theorem dX11_as_18 : decode cX11_as 18 = .ok (.iload_n 2, 1) := by decide +kernel
theorem dX11_as_19 : decode cX11_as 19 = .ok (.iconst 0, 1) := by decide +kernel
theorem dX11_as_20 : decode cX11_as 20 = .ok (.iconst 4, 1) := by decide +kernel
theorem dX11_as_21 : decode cX11_as 21 = .ok (.invokestatic 86, 3) := by decide +kernel
theorem dX11_as_24 : decode cX11_as 24 = .ok (.ifCond .ne 6, 3) := by decide +kernel
theorem dX11_as_27 : decode cX11_as 27 = .ok (.bipush (-2), 2) := by decide +kernel
theorem dX11_as_29 : decode cX11_as 29 = .ok (.ireturn, 1) := by decide +kernel
theorem dX11_as_30 : decode cX11_as 30 = .ok (.aload_n 0, 1) := by decide +kernel
theorem dX11_as_31 : decode cX11_as 31 = .ok (.getfield 25, 3) := by decide +kernel
theorem dX11_as_34 : decode cX11_as 34 = .ok (.iload_n 1, 1) := by decide +kernel
theorem dX11_as_35 : decode cX11_as 35 = .ok (.iconst 0, 1) := by decide +kernel
theorem dX11_as_36 : decode cX11_as 36 = .ok (.invokevirtual 150, 3) := by decide +kernel
theorem dX11_as_39 : decode cX11_as 39 = .ok (.iload_n 2, 1) := by decide +kernel
theorem dX11_as_40 : decode cX11_as 40 = .ok (.invokestatic 298, 3) := by decide +kernel
theorem dX11_as_43 : decode cX11_as 43 = .ok (.ifCond .eq 7, 3) := by decide +kernel
theorem dX11_as_46 : decode cX11_as 46 = .ok (.iconst 1, 1) := by decide +kernel
theorem dX11_as_47 : decode cX11_as 47 = .ok (.goto 8, 3) := by decide +kernel
theorem dX11_as_50 : decode cX11_as 50 = .ok (.aload_n 0, 1) := by decide +kernel
theorem dX11_as_51 : decode cX11_as 51 = .ok (.iconst 2, 1) := by decide +kernel
theorem dX11_as_52 : decode cX11_as 52 = .ok (.invokevirtual 135, 3) := by decide +kernel
theorem dX11_as_55 : decode cX11_as 55 = .ok (.ireturn, 1) := by decide +kernel
theorem dX11_trace_0 : decode cX11_trace 0 = .ok (.aload_n 0, 1) := by decide +kernel
theorem dX11_trace_1 : decode cX11_trace 1 = .ok (.getfield 75, 3) := by decide +kernel
theorem dX11_trace_4 : decode cX11_trace 4 = .ok (.getfield 302, 3) := by decide +kernel
theorem dX11_trace_7 : decode cX11_trace 7 = .ok (.ireturn, 1) := by decide +kernel
theorem dX11_fault_0 : decode cX11_fault 0 = .ok (.aload_n 0, 1) := by decide +kernel
theorem dX11_fault_1 : decode cX11_fault 1 = .ok (.getfield 11, 3) := by decide +kernel
theorem dX11_fault_4 : decode cX11_fault 4 = .ok (.ireturn, 1) := by decide +kernel
theorem dX11_faulted_0 : decode cX11_faulted 0 = .ok (.aload_n 0, 1) := by decide +kernel
theorem dX11_faulted_1 : decode cX11_faulted 1 = .ok (.iload_n 1, 1) := by decide +kernel
theorem dX11_faulted_2 : decode cX11_faulted 2 = .ok (.putfield 11, 3) := by decide +kernel
theorem dX11_faulted_5 : decode cX11_faulted 5 = .ok (.bipush (-10), 2) := by decide +kernel
theorem dX11_faulted_7 : decode cX11_faulted 7 = .ok (.iload_n 1, 1) := by decide +kernel
theorem dX11_faulted_8 : decode cX11_faulted 8 = .ok (.isub, 1) := by decide +kernel
theorem dX11_faulted_9 : decode cX11_faulted 9 = .ok (.ireturn, 1) := by decide +kernel
theorem dX11_findSheet_0 : decode cX11_findSheet 0 = .ok (.iload_n 1, 1) := by decide +kernel
theorem dX11_findSheet_1 : decode cX11_findSheet 1 = .ok (.iconst 0, 1) := by decide +kernel
theorem dX11_findSheet_2 : decode cX11_findSheet 2 = .ok (.iconst 3, 1) := by decide +kernel
theorem dX11_findSheet_3 : decode cX11_findSheet 3 = .ok (.invokestatic 86, 3) := by decide +kernel
theorem dX11_findSheet_6 : decode cX11_findSheet 6 = .ok (.ifCond .eq 12, 3) := by decide +kernel
theorem dX11_findSheet_9 : decode cX11_findSheet 9 = .ok (.aload_n 0, 1) := by decide +kernel
theorem dX11_findSheet_10 : decode cX11_findSheet 10 = .ok (.getfield 81, 3) := by decide +kernel
theorem dX11_findSheet_13 : decode cX11_findSheet 13 = .ok (.iload_n 1, 1) := by decide +kernel
theorem dX11_findSheet_14 : decode cX11_findSheet 14 = .ok (.aaload, 1) := by decide +kernel
theorem dX11_findSheet_15 : decode cX11_findSheet 15 = .ok (.goto 4, 3) := by decide +kernel
theorem dX11_findSheet_18 : decode cX11_findSheet 18 = .ok (.aconst_null, 1) := by decide +kernel
theorem dX11_findSheet_19 : decode cX11_findSheet 19 = .ok (.areturn, 1) := by decide +kernel
theorem dX11_within_0 : decode cX11_within 0 = .ok (.iload_n 0, 1) := by decide +kernel
theorem dX11_within_1 : decode cX11_within 1 = .ok (.iload_n 1, 1) := by decide +kernel
theorem dX11_within_2 : decode cX11_within 2 = .ok (.if_icmp .lt 12, 3) := by decide +kernel
theorem dX11_within_5 : decode cX11_within 5 = .ok (.iload_n 0, 1) := by decide +kernel
theorem dX11_within_6 : decode cX11_within 6 = .ok (.iload_n 2, 1) := by decide +kernel
theorem dX11_within_7 : decode cX11_within 7 = .ok (.if_icmp .gt 7, 3) := by decide +kernel
theorem dX11_within_10 : decode cX11_within 10 = .ok (.iconst 1, 1) := by decide +kernel
theorem dX11_within_11 : decode cX11_within 11 = .ok (.goto 4, 3) := by decide +kernel
theorem dX11_within_14 : decode cX11_within 14 = .ok (.iconst 0, 1) := by decide +kernel
theorem dX11_within_15 : decode cX11_within 15 = .ok (.ireturn, 1) := by decide +kernel
theorem dX12_init_0 : decode cX12_init 0 = .ok (.aload_n 0, 1) := by decide +kernel
theorem dX12_init_1 : decode cX12_init 1 = .ok (.invokespecial 1, 3) := by decide +kernel
theorem dX12_init_4 : decode cX12_init 4 = .ok (.aload_n 0, 1) := by decide +kernel
theorem dX12_init_5 : decode cX12_init 5 = .ok (.bipush 25, 2) := by decide +kernel
theorem dX12_init_7 : decode cX12_init 7 = .ok (.newarray .int, 2) := by decide +kernel
theorem dX12_init_9 : decode cX12_init 9 = .ok (.putfield 7, 3) := by decide +kernel
theorem dX12_init_12 : decode cX12_init 12 = .ok (.aload_n 0, 1) := by decide +kernel
theorem dX12_init_13 : decode cX12_init 13 = .ok (.iconst 4, 1) := by decide +kernel
theorem dX12_init_14 : decode cX12_init 14 = .ok (.putfield 13, 3) := by decide +kernel
theorem dX12_init_17 : decode cX12_init 17 = .ok (.aload_n 0, 1) := by decide +kernel
theorem dX12_init_18 : decode cX12_init 18 = .ok (.bipush (-9), 2) := by decide +kernel
theorem dX12_init_20 : decode cX12_init 20 = .ok (.putfield 17, 3) := by decide +kernel
theorem dX12_init_23 : decode cX12_init 23 = .ok (.aload_n 0, 1) := by decide +kernel
theorem dX12_init_24 : decode cX12_init 24 = .ok (.sipush 21007, 3) := by decide +kernel
theorem dX12_init_27 : decode cX12_init 27 = .ok (.newarray .int, 2) := by decide +kernel
theorem dX12_init_29 : decode cX12_init 29 = .ok (.putfield 20, 3) := by decide +kernel
theorem dX12_init_32 : decode cX12_init 32 = .ok (.aload_n 0, 1) := by decide +kernel
theorem dX12_init_33 : decode cX12_init 33 = .ok (.bipush 30, 2) := by decide +kernel
theorem dX12_init_35 : decode cX12_init 35 = .ok (.newarray .int, 2) := by decide +kernel
theorem dX12_init_37 : decode cX12_init 37 = .ok (.putfield 23, 3) := by decide +kernel
theorem dX12_init_40 : decode cX12_init 40 = .ok (.aload_n 0, 1) := by decide +kernel
theorem dX12_init_41 : decode cX12_init 41 = .ok (.bipush 30, 2) := by decide +kernel
theorem dX12_init_43 : decode cX12_init 43 = .ok (.newarray .int, 2) := by decide +kernel
theorem dX12_init_45 : decode cX12_init 45 = .ok (.putfield 26, 3) := by decide +kernel
theorem dX12_init_48 : decode cX12_init 48 = .ok (.aload_n 0, 1) := by decide +kernel
theorem dX12_init_49 : decode cX12_init 49 = .ok (.bipush 30, 2) := by decide +kernel
theorem dX12_init_51 : decode cX12_init 51 = .ok (.newarray .int, 2) := by decide +kernel
theorem dX12_init_53 : decode cX12_init 53 = .ok (.putfield 29, 3) := by decide +kernel
theorem dX12_init_56 : decode cX12_init 56 = .ok (.aload_n 0, 1) := by decide +kernel
theorem dX12_init_57 : decode cX12_init 57 = .ok (.bipush 30, 2) := by decide +kernel
theorem dX12_init_59 : decode cX12_init 59 = .ok (.newarray .int, 2) := by decide +kernel
theorem dX12_init_61 : decode cX12_init 61 = .ok (.putfield 32, 3) := by decide +kernel
theorem dX12_init_64 : decode cX12_init 64 = .ok (.aload_n 0, 1) := by decide +kernel
theorem dX12_init_65 : decode cX12_init 65 = .ok (.bipush 30, 2) := by decide +kernel
theorem dX12_init_67 : decode cX12_init 67 = .ok (.newarray .int, 2) := by decide +kernel
theorem dX12_init_69 : decode cX12_init 69 = .ok (.putfield 35, 3) := by decide +kernel
theorem dX12_init_72 : decode cX12_init 72 = .ok (.aload_n 0, 1) := by decide +kernel
theorem dX12_init_73 : decode cX12_init 73 = .ok (.iconst 4, 1) := by decide +kernel
theorem dX12_init_74 : decode cX12_init 74 = .ok (.newarray .int, 2) := by decide +kernel
theorem dX12_init_76 : decode cX12_init 76 = .ok (.dup, 1) := by decide +kernel
theorem dX12_init_77 : decode cX12_init 77 = .ok (.iconst 0, 1) := by decide +kernel
theorem dX12_init_78 : decode cX12_init 78 = .ok (.bipush (-9), 2) := by decide +kernel
theorem dX12_init_80 : decode cX12_init 80 = .ok (.iastore, 1) := by decide +kernel
theorem dX12_init_81 : decode cX12_init 81 = .ok (.dup, 1) := by decide +kernel
theorem dX12_init_82 : decode cX12_init 82 = .ok (.iconst 1, 1) := by decide +kernel
theorem dX12_init_83 : decode cX12_init 83 = .ok (.bipush (-9), 2) := by decide +kernel
theorem dX12_init_85 : decode cX12_init 85 = .ok (.iastore, 1) := by decide +kernel
theorem dX12_init_86 : decode cX12_init 86 = .ok (.dup, 1) := by decide +kernel
theorem dX12_init_87 : decode cX12_init 87 = .ok (.iconst 2, 1) := by decide +kernel
theorem dX12_init_88 : decode cX12_init 88 = .ok (.bipush (-9), 2) := by decide +kernel
theorem dX12_init_90 : decode cX12_init 90 = .ok (.iastore, 1) := by decide +kernel
theorem dX12_init_91 : decode cX12_init 91 = .ok (.dup, 1) := by decide +kernel
theorem dX12_init_92 : decode cX12_init 92 = .ok (.iconst 3, 1) := by decide +kernel
theorem dX12_init_93 : decode cX12_init 93 = .ok (.bipush (-9), 2) := by decide +kernel
theorem dX12_init_95 : decode cX12_init 95 = .ok (.iastore, 1) := by decide +kernel
theorem dX12_init_96 : decode cX12_init 96 = .ok (.putfield 38, 3) := by decide +kernel
theorem dX12_init_99 : decode cX12_init 99 = .ok (.aload_n 0, 1) := by decide +kernel
theorem dX12_init_100 : decode cX12_init 100 = .ok (.iconst 4, 1) := by decide +kernel
theorem dX12_init_101 : decode cX12_init 101 = .ok (.newarray .int, 2) := by decide +kernel
theorem dX12_init_103 : decode cX12_init 103 = .ok (.putfield 41, 3) := by decide +kernel
theorem dX12_init_106 : decode cX12_init 106 = .ok (.aload_n 0, 1) := by decide +kernel
theorem dX12_init_107 : decode cX12_init 107 = .ok (.sipush 160, 3) := by decide +kernel
theorem dX12_init_110 : decode cX12_init 110 = .ok (.newarray .int, 2) := by decide +kernel
theorem dX12_init_112 : decode cX12_init 112 = .ok (.putfield 44, 3) := by decide +kernel
theorem dX12_init_115 : decode cX12_init 115 = .ok (.aload_n 0, 1) := by decide +kernel
theorem dX12_init_116 : decode cX12_init 116 = .ok (.bipush 20, 2) := by decide +kernel
theorem dX12_init_118 : decode cX12_init 118 = .ok (.newarray .int, 2) := by decide +kernel
theorem dX12_init_120 : decode cX12_init 120 = .ok (.putfield 47, 3) := by decide +kernel
theorem dX12_init_123 : decode cX12_init 123 = .ok (.aload_n 0, 1) := by decide +kernel
theorem dX12_init_124 : decode cX12_init 124 = .ok (.bipush 8, 2) := by decide +kernel
theorem dX12_init_126 : decode cX12_init 126 = .ok (.newarray .int, 2) := by decide +kernel
theorem dX12_init_128 : decode cX12_init 128 = .ok (.putfield 50, 3) := by decide +kernel
theorem dX12_init_131 : decode cX12_init 131 = .ok (.aload_n 0, 1) := by decide +kernel
theorem dX12_init_132 : decode cX12_init 132 = .ok (.bipush 8, 2) := by decide +kernel
theorem dX12_init_134 : decode cX12_init 134 = .ok (.newarray .int, 2) := by decide +kernel
theorem dX12_init_136 : decode cX12_init 136 = .ok (.putfield 53, 3) := by decide +kernel
theorem dX12_init_139 : decode cX12_init 139 = .ok (.aload_n 0, 1) := by decide +kernel
theorem dX12_init_140 : decode cX12_init 140 = .ok (.bipush 8, 2) := by decide +kernel
theorem dX12_init_142 : decode cX12_init 142 = .ok (.newarray .int, 2) := by decide +kernel
theorem dX12_init_144 : decode cX12_init 144 = .ok (.putfield 56, 3) := by decide +kernel
theorem dX12_init_147 : decode cX12_init 147 = .ok (.aload_n 0, 1) := by decide +kernel
theorem dX12_init_148 : decode cX12_init 148 = .ok (.bipush 8, 2) := by decide +kernel
theorem dX12_init_150 : decode cX12_init 150 = .ok (.newarray .int, 2) := by decide +kernel
theorem dX12_init_152 : decode cX12_init 152 = .ok (.putfield 59, 3) := by decide +kernel
theorem dX12_init_155 : decode cX12_init 155 = .ok (.aload_n 0, 1) := by decide +kernel
theorem dX12_init_156 : decode cX12_init 156 = .ok (.bipush 8, 2) := by decide +kernel
theorem dX12_init_158 : decode cX12_init 158 = .ok (.newarray .int, 2) := by decide +kernel
theorem dX12_init_160 : decode cX12_init 160 = .ok (.putfield 62, 3) := by decide +kernel
theorem dX12_init_163 : decode cX12_init 163 = .ok (.aload_n 0, 1) := by decide +kernel
theorem dX12_init_164 : decode cX12_init 164 = .ok (.bipush 8, 2) := by decide +kernel
theorem dX12_init_166 : decode cX12_init 166 = .ok (.newarray .boolean, 2) := by decide +kernel
theorem dX12_init_168 : decode cX12_init 168 = .ok (.putfield 65, 3) := by decide +kernel
theorem dX12_init_171 : decode cX12_init 171 = .ok (.aload_n 0, 1) := by decide +kernel
theorem dX12_init_172 : decode cX12_init 172 = .ok (.bipush 8, 2) := by decide +kernel
theorem dX12_init_174 : decode cX12_init 174 = .ok (.newarray .int, 2) := by decide +kernel
theorem dX12_init_176 : decode cX12_init 176 = .ok (.putfield 69, 3) := by decide +kernel
theorem dX12_init_179 : decode cX12_init 179 = .ok (.aload_n 0, 1) := by decide +kernel
theorem dX12_init_180 : decode cX12_init 180 = .ok (.bipush 20, 2) := by decide +kernel
theorem dX12_init_182 : decode cX12_init 182 = .ok (.newarray .int, 2) := by decide +kernel
theorem dX12_init_184 : decode cX12_init 184 = .ok (.putfield 72, 3) := by decide +kernel
theorem dX12_init_187 : decode cX12_init 187 = .ok (.aload_n 0, 1) := by decide +kernel
theorem dX12_init_188 : decode cX12_init 188 = .ok (.bipush 20, 2) := by decide +kernel
theorem dX12_init_190 : decode cX12_init 190 = .ok (.newarray .int, 2) := by decide +kernel
theorem dX12_init_192 : decode cX12_init 192 = .ok (.putfield 75, 3) := by decide +kernel
theorem dX12_init_195 : decode cX12_init 195 = .ok (.aload_n 0, 1) := by decide +kernel
theorem dX12_init_196 : decode cX12_init 196 = .ok (.bipush 20, 2) := by decide +kernel
theorem dX12_init_198 : decode cX12_init 198 = .ok (.newarray .int, 2) := by decide +kernel
theorem dX12_init_200 : decode cX12_init 200 = .ok (.putfield 78, 3) := by decide +kernel
theorem dX12_init_203 : decode cX12_init 203 = .ok (.aload_n 0, 1) := by decide +kernel
theorem dX12_init_204 : decode cX12_init 204 = .ok (.bipush 20, 2) := by decide +kernel
theorem dX12_init_206 : decode cX12_init 206 = .ok (.newarray .int, 2) := by decide +kernel
theorem dX12_init_208 : decode cX12_init 208 = .ok (.putfield 81, 3) := by decide +kernel
theorem dX12_init_211 : decode cX12_init 211 = .ok (.aload_n 0, 1) := by decide +kernel
theorem dX12_init_212 : decode cX12_init 212 = .ok (.bipush 20, 2) := by decide +kernel
theorem dX12_init_214 : decode cX12_init 214 = .ok (.newarray .int, 2) := by decide +kernel
theorem dX12_init_216 : decode cX12_init 216 = .ok (.putfield 84, 3) := by decide +kernel
theorem dX12_init_219 : decode cX12_init 219 = .ok (.aload_n 0, 1) := by decide +kernel
theorem dX12_init_220 : decode cX12_init 220 = .ok (.bipush 20, 2) := by decide +kernel
theorem dX12_init_222 : decode cX12_init 222 = .ok (.newarray .int, 2) := by decide +kernel
theorem dX12_init_224 : decode cX12_init 224 = .ok (.putfield 87, 3) := by decide +kernel
theorem dX12_init_227 : decode cX12_init 227 = .ok (.aload_n 0, 1) := by decide +kernel
theorem dX12_init_228 : decode cX12_init 228 = .ok (.bipush 20, 2) := by decide +kernel
theorem dX12_init_230 : decode cX12_init 230 = .ok (.newarray .int, 2) := by decide +kernel
theorem dX12_init_232 : decode cX12_init 232 = .ok (.putfield 90, 3) := by decide +kernel
theorem dX12_init_235 : decode cX12_init 235 = .ok (.aload_n 0, 1) := by decide +kernel
theorem dX12_init_236 : decode cX12_init 236 = .ok (.bipush 8, 2) := by decide +kernel
theorem dX12_init_238 : decode cX12_init 238 = .ok (.newarray .long, 2) := by decide +kernel
theorem dX12_init_240 : decode cX12_init 240 = .ok (.putfield 93, 3) := by decide +kernel
theorem dX12_init_243 : decode cX12_init 243 = .ok (.aload_n 0, 1) := by decide +kernel
theorem dX12_init_244 : decode cX12_init 244 = .ok (.sipush 160, 3) := by decide +kernel
theorem dX12_init_247 : decode cX12_init 247 = .ok (.newarray .int, 2) := by decide +kernel
theorem dX12_init_249 : decode cX12_init 249 = .ok (.putfield 97, 3) := by decide +kernel
theorem dX12_init_252 : decode cX12_init 252 = .ok (.aload_n 0, 1) := by decide +kernel
theorem dX12_init_253 : decode cX12_init 253 = .ok (.sipush 160, 3) := by decide +kernel
theorem dX12_init_256 : decode cX12_init 256 = .ok (.newarray .long, 2) := by decide +kernel
theorem dX12_init_258 : decode cX12_init 258 = .ok (.putfield 100, 3) := by decide +kernel
theorem dX12_init_261 : decode cX12_init 261 = .ok (.aload_n 0, 1) := by decide +kernel
theorem dX12_init_262 : decode cX12_init 262 = .ok (.getfield 20, 3) := by decide +kernel
theorem dX12_init_265 : decode cX12_init 265 = .ok (.iconst 3, 1) := by decide +kernel
theorem dX12_init_266 : decode cX12_init 266 = .ok (.bipush 20, 2) := by decide +kernel
theorem dX12_init_268 : decode cX12_init 268 = .ok (.iastore, 1) := by decide +kernel
theorem dX12_init_269 : decode cX12_init 269 = .ok (.return_, 1) := by decide +kernel
theorem dX12_fails_0 : decode cX12_fails 0 = .ok (.aload_n 0, 1) := by decide +kernel
theorem dX12_fails_1 : decode cX12_fails 1 = .ok (.iload_n 1, 1) := by decide +kernel
theorem dX12_fails_2 : decode cX12_fails 2 = .ok (.putfield 103, 3) := by decide +kernel
theorem dX12_fails_5 : decode cX12_fails 5 = .ok (.bipush (-10), 2) := by decide +kernel
theorem dX12_fails_7 : decode cX12_fails 7 = .ok (.iload_n 1, 1) := by decide +kernel
theorem dX12_fails_8 : decode cX12_fails 8 = .ok (.isub, 1) := by decide +kernel
theorem dX12_fails_9 : decode cX12_fails 9 = .ok (.ireturn, 1) := by decide +kernel
theorem dX12_lost_0 : decode cX12_lost 0 = .ok (.aload_n 0, 1) := by decide +kernel
theorem dX12_lost_1 : decode cX12_lost 1 = .ok (.iload_n 1, 1) := by decide +kernel
theorem dX12_lost_2 : decode cX12_lost 2 = .ok (.putfield 103, 3) := by decide +kernel
theorem dX12_lost_5 : decode cX12_lost 5 = .ok (.ldc2_w 106, 3) := by decide +kernel
theorem dX12_lost_8 : decode cX12_lost 8 = .ok (.lreturn, 1) := by decide +kernel
theorem dX12_within_0 : decode cX12_within 0 = .ok (.lload_n 0, 1) := by decide +kernel
theorem dX12_within_1 : decode cX12_within 1 = .ok (.lload_n 2, 1) := by decide +kernel
theorem dX12_within_2 : decode cX12_within 2 = .ok (.lcmp, 1) := by decide +kernel
theorem dX12_within_3 : decode cX12_within 3 = .ok (.ifCond .lt 14, 3) := by decide +kernel
theorem dX12_within_6 : decode cX12_within 6 = .ok (.lload_n 0, 1) := by decide +kernel
theorem dX12_within_7 : decode cX12_within 7 = .ok (.lload 4, 2) := by decide +kernel
theorem dX12_within_9 : decode cX12_within 9 = .ok (.lcmp, 1) := by decide +kernel
theorem dX12_within_10 : decode cX12_within 10 = .ok (.ifCond .gt 7, 3) := by decide +kernel
theorem dX12_within_13 : decode cX12_within 13 = .ok (.iconst 1, 1) := by decide +kernel
theorem dX12_within_14 : decode cX12_within 14 = .ok (.goto 4, 3) := by decide +kernel
theorem dX12_within_17 : decode cX12_within 17 = .ok (.iconst 0, 1) := by decide +kernel
theorem dX12_within_18 : decode cX12_within 18 = .ok (.ireturn, 1) := by decide +kernel
theorem dX12_map_0 : decode cX12_map 0 = .ok (.iload_n 1, 1) := by decide +kernel
theorem dX12_map_1 : decode cX12_map 1 = .ok (.i2l, 1) := by decide +kernel
theorem dX12_map_2 : decode cX12_map 2 = .ok (.lconst 0, 1) := by decide +kernel
theorem dX12_map_3 : decode cX12_map 3 = .ok (.ldc2_w 108, 3) := by decide +kernel
theorem dX12_map_6 : decode cX12_map 6 = .ok (.invokestatic 110, 3) := by decide +kernel
theorem dX12_map_9 : decode cX12_map 9 = .ok (.ifCond .ne 5, 3) := by decide +kernel
theorem dX12_map_12 : decode cX12_map 12 = .ok (.iconst (-1), 1) := by decide +kernel
theorem dX12_map_13 : decode cX12_map 13 = .ok (.ireturn, 1) := by decide +kernel
theorem dX12_map_14 : decode cX12_map 14 = .ok (.iload_n 2, 1) := by decide +kernel
theorem dX12_map_15 : decode cX12_map 15 = .ok (.i2l, 1) := by decide +kernel
theorem dX12_map_16 : decode cX12_map 16 = .ok (.ldc2_w 114, 3) := by decide +kernel
theorem dX12_map_19 : decode cX12_map 19 = .ok (.ldc2_w 116, 3) := by decide +kernel
theorem dX12_map_22 : decode cX12_map 22 = .ok (.invokestatic 110, 3) := by decide +kernel
theorem dX12_map_25 : decode cX12_map 25 = .ok (.ifCond .ne 6, 3) := by decide +kernel
theorem dX12_map_28 : decode cX12_map 28 = .ok (.bipush (-2), 2) := by decide +kernel
theorem dX12_map_30 : decode cX12_map 30 = .ok (.ireturn, 1) := by decide +kernel
theorem dX12_map_31 : decode cX12_map 31 = .ok (.aload_n 0, 1) := by decide +kernel
theorem dX12_map_32 : decode cX12_map 32 = .ok (.getfield 118, 3) := by decide +kernel
theorem dX12_map_35 : decode cX12_map 35 = .ok (.ifCond .eq 6, 3) := by decide +kernel
theorem dX12_map_38 : decode cX12_map 38 = .ok (.bipush (-3), 2) := by decide +kernel
theorem dX12_map_40 : decode cX12_map 40 = .ok (.ireturn, 1) := by decide +kernel
theorem dX12_map_41 : decode cX12_map 41 = .ok (.aload_n 0, 1) := by decide +kernel
theorem dX12_map_42 : decode cX12_map 42 = .ok (.getfield 7, 3) := by decide +kernel
theorem dX12_map_45 : decode cX12_map 45 = .ok (.iload_n 1, 1) := by decide +kernel
theorem dX12_map_46 : decode cX12_map 46 = .ok (.iaload, 1) := by decide +kernel
theorem dX12_map_47 : decode cX12_map 47 = .ok (.istore_n 3, 1) := by decide +kernel
theorem dX12_map_48 : decode cX12_map 48 = .ok (.aload_n 0, 1) := by decide +kernel
theorem dX12_map_49 : decode cX12_map 49 = .ok (.getfield 7, 3) := by decide +kernel
theorem dX12_map_52 : decode cX12_map 52 = .ok (.iload_n 1, 1) := by decide +kernel
theorem dX12_map_53 : decode cX12_map 53 = .ok (.iload_n 2, 1) := by decide +kernel
theorem dX12_map_54 : decode cX12_map 54 = .ok (.iastore, 1) := by decide +kernel
theorem dX12_map_55 : decode cX12_map 55 = .ok (.iload_n 3, 1) := by decide +kernel
theorem dX12_map_56 : decode cX12_map 56 = .ok (.ireturn, 1) := by decide +kernel
theorem dX12_torqueAt_0 : decode cX12_torqueAt 0 = .ok (.iload_n 1, 1) := by decide +kernel
theorem dX12_torqueAt_1 : decode cX12_torqueAt 1 = .ok (.sipush 2000, 3) := by decide +kernel
theorem dX12_torqueAt_4 : decode cX12_torqueAt 4 = .ok (.idiv, 1) := by decide +kernel
theorem dX12_torqueAt_5 : decode cX12_torqueAt 5 = .ok (.istore_n 3, 1) := by decide +kernel
theorem dX12_torqueAt_6 : decode cX12_torqueAt 6 = .ok (.iload_n 2, 1) := by decide +kernel
theorem dX12_torqueAt_7 : decode cX12_torqueAt 7 = .ok (.sipush 250, 3) := by decide +kernel
theorem dX12_torqueAt_10 : decode cX12_torqueAt 10 = .ok (.idiv, 1) := by decide +kernel
theorem dX12_torqueAt_11 : decode cX12_torqueAt 11 = .ok (.istore 4, 2) := by decide +kernel
theorem dX12_torqueAt_13 : decode cX12_torqueAt 13 = .ok (.iload_n 3, 1) := by decide +kernel
theorem dX12_torqueAt_14 : decode cX12_torqueAt 14 = .ok (.iconst 3, 1) := by decide +kernel
theorem dX12_torqueAt_15 : decode cX12_torqueAt 15 = .ok (.if_icmp .le 7, 3) := by decide +kernel
theorem dX12_torqueAt_18 : decode cX12_torqueAt 18 = .ok (.iconst 3, 1) := by decide +kernel
theorem dX12_torqueAt_19 : decode cX12_torqueAt 19 = .ok (.goto 4, 3) := by decide +kernel
theorem dX12_torqueAt_22 : decode cX12_torqueAt 22 = .ok (.iload_n 3, 1) := by decide +kernel
theorem dX12_torqueAt_23 : decode cX12_torqueAt 23 = .ok (.istore_n 3, 1) := by decide +kernel
theorem dX12_torqueAt_24 : decode cX12_torqueAt 24 = .ok (.iload 4, 2) := by decide +kernel
theorem dX12_torqueAt_26 : decode cX12_torqueAt 26 = .ok (.iconst 3, 1) := by decide +kernel
theorem dX12_torqueAt_27 : decode cX12_torqueAt 27 = .ok (.if_icmp .le 7, 3) := by decide +kernel
theorem dX12_torqueAt_30 : decode cX12_torqueAt 30 = .ok (.iconst 3, 1) := by decide +kernel
theorem dX12_torqueAt_31 : decode cX12_torqueAt 31 = .ok (.goto 5, 3) := by decide +kernel
theorem dX12_torqueAt_34 : decode cX12_torqueAt 34 = .ok (.iload 4, 2) := by decide +kernel
theorem dX12_torqueAt_36 : decode cX12_torqueAt 36 = .ok (.istore 4, 2) := by decide +kernel
theorem dX12_torqueAt_38 : decode cX12_torqueAt 38 = .ok (.iload_n 1, 1) := by decide +kernel
theorem dX12_torqueAt_39 : decode cX12_torqueAt 39 = .ok (.i2l, 1) := by decide +kernel
theorem dX12_torqueAt_40 : decode cX12_torqueAt 40 = .ok (.ldc2_w 121, 3) := by decide +kernel
theorem dX12_torqueAt_43 : decode cX12_torqueAt 43 = .ok (.iload_n 3, 1) := by decide +kernel
theorem dX12_torqueAt_44 : decode cX12_torqueAt 44 = .ok (.i2l, 1) := by decide +kernel
theorem dX12_torqueAt_45 : decode cX12_torqueAt 45 = .ok (.lmul, 1) := by decide +kernel
theorem dX12_torqueAt_46 : decode cX12_torqueAt 46 = .ok (.lsub, 1) := by decide +kernel
theorem dX12_torqueAt_47 : decode cX12_torqueAt 47 = .ok (.lstore 5, 2) := by decide +kernel
theorem dX12_torqueAt_49 : decode cX12_torqueAt 49 = .ok (.iload_n 2, 1) := by decide +kernel
theorem dX12_torqueAt_50 : decode cX12_torqueAt 50 = .ok (.i2l, 1) := by decide +kernel
theorem dX12_torqueAt_51 : decode cX12_torqueAt 51 = .ok (.ldc2_w 123, 3) := by decide +kernel
theorem dX12_torqueAt_54 : decode cX12_torqueAt 54 = .ok (.iload 4, 2) := by decide +kernel
theorem dX12_torqueAt_56 : decode cX12_torqueAt 56 = .ok (.i2l, 1) := by decide +kernel
theorem dX12_torqueAt_57 : decode cX12_torqueAt 57 = .ok (.lmul, 1) := by decide +kernel
theorem dX12_torqueAt_58 : decode cX12_torqueAt 58 = .ok (.lsub, 1) := by decide +kernel
theorem dX12_torqueAt_59 : decode cX12_torqueAt 59 = .ok (.lstore 7, 2) := by decide +kernel
theorem dX12_torqueAt_61 : decode cX12_torqueAt 61 = .ok (.aload_n 0, 1) := by decide +kernel
theorem dX12_torqueAt_62 : decode cX12_torqueAt 62 = .ok (.getfield 7, 3) := by decide +kernel
theorem dX12_torqueAt_65 : decode cX12_torqueAt 65 = .ok (.iconst 5, 1) := by decide +kernel
theorem dX12_torqueAt_66 : decode cX12_torqueAt 66 = .ok (.iload_n 3, 1) := by decide +kernel
theorem dX12_torqueAt_67 : decode cX12_torqueAt 67 = .ok (.imul, 1) := by decide +kernel
theorem dX12_torqueAt_68 : decode cX12_torqueAt 68 = .ok (.iload 4, 2) := by decide +kernel
theorem dX12_torqueAt_70 : decode cX12_torqueAt 70 = .ok (.iadd, 1) := by decide +kernel
theorem dX12_torqueAt_71 : decode cX12_torqueAt 71 = .ok (.iaload, 1) := by decide +kernel
theorem dX12_torqueAt_72 : decode cX12_torqueAt 72 = .ok (.i2l, 1) := by decide +kernel
theorem dX12_torqueAt_73 : decode cX12_torqueAt 73 = .ok (.ldc2_w 121, 3) := by decide +kernel
theorem dX12_torqueAt_76 : decode cX12_torqueAt 76 = .ok (.lload 5, 2) := by decide +kernel
theorem dX12_torqueAt_78 : decode cX12_torqueAt 78 = .ok (.lsub, 1) := by decide +kernel
theorem dX12_torqueAt_79 : decode cX12_torqueAt 79 = .ok (.lmul, 1) := by decide +kernel
theorem dX12_torqueAt_80 : decode cX12_torqueAt 80 = .ok (.ldc2_w 123, 3) := by decide +kernel
theorem dX12_torqueAt_83 : decode cX12_torqueAt 83 = .ok (.lload 7, 2) := by decide +kernel
theorem dX12_torqueAt_85 : decode cX12_torqueAt 85 = .ok (.lsub, 1) := by decide +kernel
theorem dX12_torqueAt_86 : decode cX12_torqueAt 86 = .ok (.lmul, 1) := by decide +kernel
theorem dX12_torqueAt_87 : decode cX12_torqueAt 87 = .ok (.aload_n 0, 1) := by decide +kernel
theorem dX12_torqueAt_88 : decode cX12_torqueAt 88 = .ok (.getfield 7, 3) := by decide +kernel
theorem dX12_torqueAt_91 : decode cX12_torqueAt 91 = .ok (.iconst 5, 1) := by decide +kernel
theorem dX12_torqueAt_92 : decode cX12_torqueAt 92 = .ok (.iload_n 3, 1) := by decide +kernel
theorem dX12_torqueAt_93 : decode cX12_torqueAt 93 = .ok (.imul, 1) := by decide +kernel
theorem dX12_torqueAt_94 : decode cX12_torqueAt 94 = .ok (.iconst 5, 1) := by decide +kernel
theorem dX12_torqueAt_95 : decode cX12_torqueAt 95 = .ok (.iadd, 1) := by decide +kernel
theorem dX12_torqueAt_96 : decode cX12_torqueAt 96 = .ok (.iload 4, 2) := by decide +kernel
theorem dX12_torqueAt_98 : decode cX12_torqueAt 98 = .ok (.iadd, 1) := by decide +kernel
theorem dX12_torqueAt_99 : decode cX12_torqueAt 99 = .ok (.iaload, 1) := by decide +kernel
theorem dX12_torqueAt_100 : decode cX12_torqueAt 100 = .ok (.i2l, 1) := by decide +kernel
theorem dX12_torqueAt_101 : decode cX12_torqueAt 101 = .ok (.lload 5, 2) := by decide +kernel
theorem dX12_torqueAt_103 : decode cX12_torqueAt 103 = .ok (.lmul, 1) := by decide +kernel
theorem dX12_torqueAt_104 : decode cX12_torqueAt 104 = .ok (.ldc2_w 123, 3) := by decide +kernel
theorem dX12_torqueAt_107 : decode cX12_torqueAt 107 = .ok (.lload 7, 2) := by decide +kernel
theorem dX12_torqueAt_109 : decode cX12_torqueAt 109 = .ok (.lsub, 1) := by decide +kernel
theorem dX12_torqueAt_110 : decode cX12_torqueAt 110 = .ok (.lmul, 1) := by decide +kernel
theorem dX12_torqueAt_111 : decode cX12_torqueAt 111 = .ok (.ladd, 1) := by decide +kernel
theorem dX12_torqueAt_112 : decode cX12_torqueAt 112 = .ok (.aload_n 0, 1) := by decide +kernel
theorem dX12_torqueAt_113 : decode cX12_torqueAt 113 = .ok (.getfield 7, 3) := by decide +kernel
theorem dX12_torqueAt_116 : decode cX12_torqueAt 116 = .ok (.iconst 5, 1) := by decide +kernel
theorem dX12_torqueAt_117 : decode cX12_torqueAt 117 = .ok (.iload_n 3, 1) := by decide +kernel
theorem dX12_torqueAt_118 : decode cX12_torqueAt 118 = .ok (.imul, 1) := by decide +kernel
theorem dX12_torqueAt_119 : decode cX12_torqueAt 119 = .ok (.iload 4, 2) := by decide +kernel
theorem dX12_torqueAt_121 : decode cX12_torqueAt 121 = .ok (.iadd, 1) := by decide +kernel
theorem dX12_torqueAt_122 : decode cX12_torqueAt 122 = .ok (.iconst 1, 1) := by decide +kernel
theorem dX12_torqueAt_123 : decode cX12_torqueAt 123 = .ok (.iadd, 1) := by decide +kernel
theorem dX12_torqueAt_124 : decode cX12_torqueAt 124 = .ok (.iaload, 1) := by decide +kernel
theorem dX12_torqueAt_125 : decode cX12_torqueAt 125 = .ok (.i2l, 1) := by decide +kernel
theorem dX12_torqueAt_126 : decode cX12_torqueAt 126 = .ok (.ldc2_w 121, 3) := by decide +kernel
theorem dX12_torqueAt_129 : decode cX12_torqueAt 129 = .ok (.lload 5, 2) := by decide +kernel
theorem dX12_torqueAt_131 : decode cX12_torqueAt 131 = .ok (.lsub, 1) := by decide +kernel
theorem dX12_torqueAt_132 : decode cX12_torqueAt 132 = .ok (.lmul, 1) := by decide +kernel
theorem dX12_torqueAt_133 : decode cX12_torqueAt 133 = .ok (.lload 7, 2) := by decide +kernel
theorem dX12_torqueAt_135 : decode cX12_torqueAt 135 = .ok (.lmul, 1) := by decide +kernel
theorem dX12_torqueAt_136 : decode cX12_torqueAt 136 = .ok (.ladd, 1) := by decide +kernel
theorem dX12_torqueAt_137 : decode cX12_torqueAt 137 = .ok (.aload_n 0, 1) := by decide +kernel
theorem dX12_torqueAt_138 : decode cX12_torqueAt 138 = .ok (.getfield 7, 3) := by decide +kernel
theorem dX12_torqueAt_141 : decode cX12_torqueAt 141 = .ok (.iconst 5, 1) := by decide +kernel
theorem dX12_torqueAt_142 : decode cX12_torqueAt 142 = .ok (.iload_n 3, 1) := by decide +kernel
theorem dX12_torqueAt_143 : decode cX12_torqueAt 143 = .ok (.imul, 1) := by decide +kernel
theorem dX12_torqueAt_144 : decode cX12_torqueAt 144 = .ok (.bipush 6, 2) := by decide +kernel
theorem dX12_torqueAt_146 : decode cX12_torqueAt 146 = .ok (.iadd, 1) := by decide +kernel
theorem dX12_torqueAt_147 : decode cX12_torqueAt 147 = .ok (.iload 4, 2) := by decide +kernel
theorem dX12_torqueAt_149 : decode cX12_torqueAt 149 = .ok (.iadd, 1) := by decide +kernel
theorem dX12_torqueAt_150 : decode cX12_torqueAt 150 = .ok (.iaload, 1) := by decide +kernel
theorem dX12_torqueAt_151 : decode cX12_torqueAt 151 = .ok (.i2l, 1) := by decide +kernel
theorem dX12_torqueAt_152 : decode cX12_torqueAt 152 = .ok (.lload 5, 2) := by decide +kernel
theorem dX12_torqueAt_154 : decode cX12_torqueAt 154 = .ok (.lmul, 1) := by decide +kernel
theorem dX12_torqueAt_155 : decode cX12_torqueAt 155 = .ok (.lload 7, 2) := by decide +kernel
theorem dX12_torqueAt_157 : decode cX12_torqueAt 157 = .ok (.lmul, 1) := by decide +kernel
theorem dX12_torqueAt_158 : decode cX12_torqueAt 158 = .ok (.ladd, 1) := by decide +kernel
theorem dX12_torqueAt_159 : decode cX12_torqueAt 159 = .ok (.lstore 9, 2) := by decide +kernel
theorem dX12_torqueAt_161 : decode cX12_torqueAt 161 = .ok (.lload 9, 2) := by decide +kernel
theorem dX12_torqueAt_163 : decode cX12_torqueAt 163 = .ok (.ldc2_w 125, 3) := by decide +kernel
theorem dX12_torqueAt_166 : decode cX12_torqueAt 166 = .ok (.ldiv, 1) := by decide +kernel
theorem dX12_torqueAt_167 : decode cX12_torqueAt 167 = .ok (.l2i, 1) := by decide +kernel
theorem dX12_torqueAt_168 : decode cX12_torqueAt 168 = .ok (.ireturn, 1) := by decide +kernel
theorem dX12_torque_0 : decode cX12_torque 0 = .ok (.iload_n 1, 1) := by decide +kernel
theorem dX12_torque_1 : decode cX12_torque 1 = .ok (.i2l, 1) := by decide +kernel
theorem dX12_torque_2 : decode cX12_torque 2 = .ok (.lconst 0, 1) := by decide +kernel
theorem dX12_torque_3 : decode cX12_torque 3 = .ok (.ldc2_w 127, 3) := by decide +kernel
theorem dX12_torque_6 : decode cX12_torque 6 = .ok (.invokestatic 110, 3) := by decide +kernel
theorem dX12_torque_9 : decode cX12_torque 9 = .ok (.ifCond .eq 25, 3) := by decide +kernel
theorem dX12_torque_12 : decode cX12_torque 12 = .ok (.iload_n 2, 1) := by decide +kernel
theorem dX12_torque_13 : decode cX12_torque 13 = .ok (.i2l, 1) := by decide +kernel
theorem dX12_torque_14 : decode cX12_torque 14 = .ok (.lconst 0, 1) := by decide +kernel
theorem dX12_torque_15 : decode cX12_torque 15 = .ok (.ldc2_w 116, 3) := by decide +kernel
theorem dX12_torque_18 : decode cX12_torque 18 = .ok (.invokestatic 110, 3) := by decide +kernel
theorem dX12_torque_21 : decode cX12_torque 21 = .ok (.ifCond .eq 13, 3) := by decide +kernel
theorem dX12_torque_24 : decode cX12_torque 24 = .ok (.aload_n 0, 1) := by decide +kernel
theorem dX12_torque_25 : decode cX12_torque 25 = .ok (.iload_n 1, 1) := by decide +kernel
theorem dX12_torque_26 : decode cX12_torque 26 = .ok (.iload_n 2, 1) := by decide +kernel
theorem dX12_torque_27 : decode cX12_torque 27 = .ok (.invokevirtual 129, 3) := by decide +kernel
theorem dX12_torque_30 : decode cX12_torque 30 = .ok (.i2l, 1) := by decide +kernel
theorem dX12_torque_31 : decode cX12_torque 31 = .ok (.goto 6, 3) := by decide +kernel
theorem dX12_torque_34 : decode cX12_torque 34 = .ok (.ldc2_w 106, 3) := by decide +kernel
theorem dX12_torque_37 : decode cX12_torque 37 = .ok (.lreturn, 1) := by decide +kernel
theorem dX12_lag_0 : decode cX12_lag 0 = .ok (.iload_n 1, 1) := by decide +kernel
theorem dX12_lag_1 : decode cX12_lag 1 = .ok (.i2l, 1) := by decide +kernel
theorem dX12_lag_2 : decode cX12_lag 2 = .ok (.lconst 1, 1) := by decide +kernel
theorem dX12_lag_3 : decode cX12_lag 3 = .ok (.ldc2_w 133, 3) := by decide +kernel
theorem dX12_lag_6 : decode cX12_lag 6 = .ok (.invokestatic 110, 3) := by decide +kernel
theorem dX12_lag_9 : decode cX12_lag 9 = .ok (.ifCond .ne 6, 3) := by decide +kernel
theorem dX12_lag_12 : decode cX12_lag 12 = .ok (.bipush (-2), 2) := by decide +kernel
theorem dX12_lag_14 : decode cX12_lag 14 = .ok (.ireturn, 1) := by decide +kernel
theorem dX12_lag_15 : decode cX12_lag 15 = .ok (.aload_n 0, 1) := by decide +kernel
theorem dX12_lag_16 : decode cX12_lag 16 = .ok (.getfield 118, 3) := by decide +kernel
theorem dX12_lag_19 : decode cX12_lag 19 = .ok (.ifCond .eq 6, 3) := by decide +kernel
theorem dX12_lag_22 : decode cX12_lag 22 = .ok (.bipush (-3), 2) := by decide +kernel
theorem dX12_lag_24 : decode cX12_lag 24 = .ok (.ireturn, 1) := by decide +kernel
theorem dX12_lag_25 : decode cX12_lag 25 = .ok (.aload_n 0, 1) := by decide +kernel
theorem dX12_lag_26 : decode cX12_lag 26 = .ok (.getfield 13, 3) := by decide +kernel
theorem dX12_lag_29 : decode cX12_lag 29 = .ok (.istore_n 2, 1) := by decide +kernel
theorem dX12_lag_30 : decode cX12_lag 30 = .ok (.aload_n 0, 1) := by decide +kernel
theorem dX12_lag_31 : decode cX12_lag 31 = .ok (.iload_n 1, 1) := by decide +kernel
theorem dX12_lag_32 : decode cX12_lag 32 = .ok (.putfield 13, 3) := by decide +kernel
theorem dX12_lag_35 : decode cX12_lag 35 = .ok (.iload_n 2, 1) := by decide +kernel
theorem dX12_lag_36 : decode cX12_lag 36 = .ok (.ireturn, 1) := by decide +kernel
theorem dX12_mayStand_0 : decode cX12_mayStand 0 = .ok (.iload_n 1, 1) := by decide +kernel
theorem dX12_mayStand_1 : decode cX12_mayStand 1 = .ok (.tableswitch 124 0 3 #[31, 41, 84, 95], 31) := by decide +kernel
theorem dX12_mayStand_32 : decode cX12_mayStand 32 = .ok (.iload_n 2, 1) := by decide +kernel
theorem dX12_mayStand_33 : decode cX12_mayStand 33 = .ok (.i2l, 1) := by decide +kernel
theorem dX12_mayStand_34 : decode cX12_mayStand 34 = .ok (.lconst 1, 1) := by decide +kernel
theorem dX12_mayStand_35 : decode cX12_mayStand 35 = .ok (.ldc2_w 135, 3) := by decide +kernel
theorem dX12_mayStand_38 : decode cX12_mayStand 38 = .ok (.invokestatic 110, 3) := by decide +kernel
theorem dX12_mayStand_41 : decode cX12_mayStand 41 = .ok (.ireturn, 1) := by decide +kernel
theorem dX12_mayStand_42 : decode cX12_mayStand 42 = .ok (.iload_n 2, 1) := by decide +kernel
theorem dX12_mayStand_43 : decode cX12_mayStand 43 = .ok (.i2l, 1) := by decide +kernel
theorem dX12_mayStand_44 : decode cX12_mayStand 44 = .ok (.lconst 1, 1) := by decide +kernel
theorem dX12_mayStand_45 : decode cX12_mayStand 45 = .ok (.ldc2_w 135, 3) := by decide +kernel
theorem dX12_mayStand_48 : decode cX12_mayStand 48 = .ok (.invokestatic 110, 3) := by decide +kernel
theorem dX12_mayStand_51 : decode cX12_mayStand 51 = .ok (.ifCond .eq 32, 3) := by decide +kernel
theorem dX12_mayStand_54 : decode cX12_mayStand 54 = .ok (.iload_n 3, 1) := by decide +kernel
theorem dX12_mayStand_55 : decode cX12_mayStand 55 = .ok (.i2l, 1) := by decide +kernel
theorem dX12_mayStand_56 : decode cX12_mayStand 56 = .ok (.lconst 0, 1) := by decide +kernel
theorem dX12_mayStand_57 : decode cX12_mayStand 57 = .ok (.ldc2_w 127, 3) := by decide +kernel
theorem dX12_mayStand_60 : decode cX12_mayStand 60 = .ok (.invokestatic 110, 3) := by decide +kernel
theorem dX12_mayStand_63 : decode cX12_mayStand 63 = .ok (.ifCond .eq 20, 3) := by decide +kernel
theorem dX12_mayStand_66 : decode cX12_mayStand 66 = .ok (.iload 4, 2) := by decide +kernel
theorem dX12_mayStand_68 : decode cX12_mayStand 68 = .ok (.i2l, 1) := by decide +kernel
theorem dX12_mayStand_69 : decode cX12_mayStand 69 = .ok (.lconst 0, 1) := by decide +kernel
theorem dX12_mayStand_70 : decode cX12_mayStand 70 = .ok (.ldc2_w 116, 3) := by decide +kernel
theorem dX12_mayStand_73 : decode cX12_mayStand 73 = .ok (.invokestatic 110, 3) := by decide +kernel
theorem dX12_mayStand_76 : decode cX12_mayStand 76 = .ok (.ifCond .eq 7, 3) := by decide +kernel
theorem dX12_mayStand_79 : decode cX12_mayStand 79 = .ok (.iconst 1, 1) := by decide +kernel
theorem dX12_mayStand_80 : decode cX12_mayStand 80 = .ok (.goto 4, 3) := by decide +kernel
theorem dX12_mayStand_83 : decode cX12_mayStand 83 = .ok (.iconst 0, 1) := by decide +kernel
theorem dX12_mayStand_84 : decode cX12_mayStand 84 = .ok (.ireturn, 1) := by decide +kernel
theorem dX12_mayStand_85 : decode cX12_mayStand 85 = .ok (.iload 4, 2) := by decide +kernel
theorem dX12_mayStand_87 : decode cX12_mayStand 87 = .ok (.i2l, 1) := by decide +kernel
theorem dX12_mayStand_88 : decode cX12_mayStand 88 = .ok (.lconst 1, 1) := by decide +kernel
theorem dX12_mayStand_89 : decode cX12_mayStand 89 = .ok (.ldc2_w 135, 3) := by decide +kernel
theorem dX12_mayStand_92 : decode cX12_mayStand 92 = .ok (.invokestatic 110, 3) := by decide +kernel
theorem dX12_mayStand_95 : decode cX12_mayStand 95 = .ok (.ireturn, 1) := by decide +kernel
theorem dX12_mayStand_96 : decode cX12_mayStand 96 = .ok (.iload_n 2, 1) := by decide +kernel
theorem dX12_mayStand_97 : decode cX12_mayStand 97 = .ok (.i2l, 1) := by decide +kernel
theorem dX12_mayStand_98 : decode cX12_mayStand 98 = .ok (.lconst 0, 1) := by decide +kernel
theorem dX12_mayStand_99 : decode cX12_mayStand 99 = .ok (.iload_n 0, 1) := by decide +kernel
theorem dX12_mayStand_100 : decode cX12_mayStand 100 = .ok (.i2l, 1) := by decide +kernel
theorem dX12_mayStand_101 : decode cX12_mayStand 101 = .ok (.invokestatic 110, 3) := by decide +kernel
theorem dX12_mayStand_104 : decode cX12_mayStand 104 = .ok (.ifCond .eq 19, 3) := by decide +kernel
theorem dX12_mayStand_107 : decode cX12_mayStand 107 = .ok (.iload_n 3, 1) := by decide +kernel
theorem dX12_mayStand_108 : decode cX12_mayStand 108 = .ok (.i2l, 1) := by decide +kernel
theorem dX12_mayStand_109 : decode cX12_mayStand 109 = .ok (.lconst 1, 1) := by decide +kernel
theorem dX12_mayStand_110 : decode cX12_mayStand 110 = .ok (.ldc2_w 137, 3) := by decide +kernel
theorem dX12_mayStand_113 : decode cX12_mayStand 113 = .ok (.invokestatic 110, 3) := by decide +kernel
theorem dX12_mayStand_116 : decode cX12_mayStand 116 = .ok (.ifCond .eq 7, 3) := by decide +kernel
theorem dX12_mayStand_119 : decode cX12_mayStand 119 = .ok (.iconst 1, 1) := by decide +kernel
theorem dX12_mayStand_120 : decode cX12_mayStand 120 = .ok (.goto 4, 3) := by decide +kernel
theorem dX12_mayStand_123 : decode cX12_mayStand 123 = .ok (.iconst 0, 1) := by decide +kernel
theorem dX12_mayStand_124 : decode cX12_mayStand 124 = .ok (.ireturn, 1) := by decide +kernel
theorem dX12_mayStand_125 : decode cX12_mayStand 125 = .ok (.iload_n 1, 1) := by decide +kernel
theorem dX12_mayStand_126 : decode cX12_mayStand 126 = .ok (.iconst 4, 1) := by decide +kernel
theorem dX12_mayStand_127 : decode cX12_mayStand 127 = .ok (.if_icmp .ne 7, 3) := by decide +kernel
theorem dX12_mayStand_130 : decode cX12_mayStand 130 = .ok (.iconst 1, 1) := by decide +kernel
theorem dX12_mayStand_131 : decode cX12_mayStand 131 = .ok (.goto 4, 3) := by decide +kernel
theorem dX12_mayStand_134 : decode cX12_mayStand 134 = .ok (.iconst 0, 1) := by decide +kernel
theorem dX12_mayStand_135 : decode cX12_mayStand 135 = .ok (.ireturn, 1) := by decide +kernel
theorem dX12_addStep_0 : decode cX12_addStep 0 = .ok (.aload_n 0, 1) := by decide +kernel
theorem dX12_addStep_1 : decode cX12_addStep 1 = .ok (.getfield 23, 3) := by decide +kernel
theorem dX12_addStep_4 : decode cX12_addStep 4 = .ok (.aload_n 0, 1) := by decide +kernel
theorem dX12_addStep_5 : decode cX12_addStep 5 = .ok (.getfield 139, 3) := by decide +kernel
theorem dX12_addStep_8 : decode cX12_addStep 8 = .ok (.iload_n 1, 1) := by decide +kernel
theorem dX12_addStep_9 : decode cX12_addStep 9 = .ok (.iastore, 1) := by decide +kernel
theorem dX12_addStep_10 : decode cX12_addStep 10 = .ok (.aload_n 0, 1) := by decide +kernel
theorem dX12_addStep_11 : decode cX12_addStep 11 = .ok (.getfield 26, 3) := by decide +kernel
theorem dX12_addStep_14 : decode cX12_addStep 14 = .ok (.aload_n 0, 1) := by decide +kernel
theorem dX12_addStep_15 : decode cX12_addStep 15 = .ok (.getfield 139, 3) := by decide +kernel
theorem dX12_addStep_18 : decode cX12_addStep 18 = .ok (.iload_n 2, 1) := by decide +kernel
theorem dX12_addStep_19 : decode cX12_addStep 19 = .ok (.iastore, 1) := by decide +kernel
theorem dX12_addStep_20 : decode cX12_addStep 20 = .ok (.aload_n 0, 1) := by decide +kernel
theorem dX12_addStep_21 : decode cX12_addStep 21 = .ok (.getfield 29, 3) := by decide +kernel
theorem dX12_addStep_24 : decode cX12_addStep 24 = .ok (.aload_n 0, 1) := by decide +kernel
theorem dX12_addStep_25 : decode cX12_addStep 25 = .ok (.getfield 139, 3) := by decide +kernel
theorem dX12_addStep_28 : decode cX12_addStep 28 = .ok (.iload_n 3, 1) := by decide +kernel
theorem dX12_addStep_29 : decode cX12_addStep 29 = .ok (.iastore, 1) := by decide +kernel
theorem dX12_addStep_30 : decode cX12_addStep 30 = .ok (.aload_n 0, 1) := by decide +kernel
theorem dX12_addStep_31 : decode cX12_addStep 31 = .ok (.getfield 32, 3) := by decide +kernel
theorem dX12_addStep_34 : decode cX12_addStep 34 = .ok (.aload_n 0, 1) := by decide +kernel
theorem dX12_addStep_35 : decode cX12_addStep 35 = .ok (.getfield 139, 3) := by decide +kernel
theorem dX12_addStep_38 : decode cX12_addStep 38 = .ok (.iload 4, 2) := by decide +kernel
theorem dX12_addStep_40 : decode cX12_addStep 40 = .ok (.iastore, 1) := by decide +kernel
theorem dX12_addStep_41 : decode cX12_addStep 41 = .ok (.aload_n 0, 1) := by decide +kernel
theorem dX12_addStep_42 : decode cX12_addStep 42 = .ok (.dup, 1) := by decide +kernel
theorem dX12_addStep_43 : decode cX12_addStep 43 = .ok (.getfield 139, 3) := by decide +kernel
theorem dX12_addStep_46 : decode cX12_addStep 46 = .ok (.iconst 1, 1) := by decide +kernel
theorem dX12_addStep_47 : decode cX12_addStep 47 = .ok (.iadd, 1) := by decide +kernel
theorem dX12_addStep_48 : decode cX12_addStep 48 = .ok (.putfield 139, 3) := by decide +kernel
theorem dX12_addStep_51 : decode cX12_addStep 51 = .ok (.return_, 1) := by decide +kernel
theorem dX12_step_0 : decode cX12_step 0 = .ok (.aload_n 0, 1) := by decide +kernel
theorem dX12_step_1 : decode cX12_step 1 = .ok (.getfield 118, 3) := by decide +kernel
theorem dX12_step_4 : decode cX12_step 4 = .ok (.ifCond .eq 6, 3) := by decide +kernel
theorem dX12_step_7 : decode cX12_step 7 = .ok (.bipush (-3), 2) := by decide +kernel
theorem dX12_step_9 : decode cX12_step 9 = .ok (.ireturn, 1) := by decide +kernel
theorem dX12_step_10 : decode cX12_step 10 = .ok (.aload_n 0, 1) := by decide +kernel
theorem dX12_step_11 : decode cX12_step 11 = .ok (.getfield 139, 3) := by decide +kernel
theorem dX12_step_14 : decode cX12_step 14 = .ok (.iload_n 1, 1) := by decide +kernel
theorem dX12_step_15 : decode cX12_step 15 = .ok (.iload_n 2, 1) := by decide +kernel
theorem dX12_step_16 : decode cX12_step 16 = .ok (.iload_n 3, 1) := by decide +kernel
theorem dX12_step_17 : decode cX12_step 17 = .ok (.iload 4, 2) := by decide +kernel
theorem dX12_step_19 : decode cX12_step 19 = .ok (.invokestatic 142, 3) := by decide +kernel
theorem dX12_step_22 : decode cX12_step 22 = .ok (.ifCond .ne 6, 3) := by decide +kernel
theorem dX12_step_25 : decode cX12_step 25 = .ok (.bipush (-2), 2) := by decide +kernel
theorem dX12_step_27 : decode cX12_step 27 = .ok (.ireturn, 1) := by decide +kernel
theorem dX12_step_28 : decode cX12_step 28 = .ok (.aload_n 0, 1) := by decide +kernel
theorem dX12_step_29 : decode cX12_step 29 = .ok (.getfield 139, 3) := by decide +kernel
theorem dX12_step_32 : decode cX12_step 32 = .ok (.bipush 30, 2) := by decide +kernel
theorem dX12_step_34 : decode cX12_step 34 = .ok (.if_icmp .ne 6, 3) := by decide +kernel
theorem dX12_step_37 : decode cX12_step 37 = .ok (.bipush (-4), 2) := by decide +kernel
theorem dX12_step_39 : decode cX12_step 39 = .ok (.ireturn, 1) := by decide +kernel
theorem dX12_step_40 : decode cX12_step 40 = .ok (.aload_n 0, 1) := by decide +kernel
theorem dX12_step_41 : decode cX12_step 41 = .ok (.iload_n 1, 1) := by decide +kernel
theorem dX12_step_42 : decode cX12_step 42 = .ok (.iload_n 2, 1) := by decide +kernel
theorem dX12_step_43 : decode cX12_step 43 = .ok (.iload_n 3, 1) := by decide +kernel
theorem dX12_step_44 : decode cX12_step 44 = .ok (.iload 4, 2) := by decide +kernel
theorem dX12_step_46 : decode cX12_step 46 = .ok (.invokevirtual 146, 3) := by decide +kernel
theorem dX12_step_49 : decode cX12_step 49 = .ok (.aload_n 0, 1) := by decide +kernel
theorem dX12_step_50 : decode cX12_step 50 = .ok (.getfield 139, 3) := by decide +kernel
theorem dX12_step_53 : decode cX12_step 53 = .ok (.iconst 1, 1) := by decide +kernel
theorem dX12_step_54 : decode cX12_step 54 = .ok (.isub, 1) := by decide +kernel
theorem dX12_step_55 : decode cX12_step 55 = .ok (.ireturn, 1) := by decide +kernel
theorem dX12_load_0 : decode cX12_load 0 = .ok (.aload_n 0, 1) := by decide +kernel
theorem dX12_load_1 : decode cX12_load 1 = .ok (.iconst 0, 1) := by decide +kernel
theorem dX12_load_2 : decode cX12_load 2 = .ok (.putfield 103, 3) := by decide +kernel
theorem dX12_load_5 : decode cX12_load 5 = .ok (.iload_n 1, 1) := by decide +kernel
theorem dX12_load_6 : decode cX12_load 6 = .ok (.i2l, 1) := by decide +kernel
theorem dX12_load_7 : decode cX12_load 7 = .ok (.lconst 0, 1) := by decide +kernel
theorem dX12_load_8 : decode cX12_load 8 = .ok (.ldc2_w 150, 3) := by decide +kernel
theorem dX12_load_11 : decode cX12_load 11 = .ok (.invokestatic 110, 3) := by decide +kernel
theorem dX12_load_14 : decode cX12_load 14 = .ok (.ifCond .ne 5, 3) := by decide +kernel
theorem dX12_load_17 : decode cX12_load 17 = .ok (.iconst (-1), 1) := by decide +kernel
theorem dX12_load_18 : decode cX12_load 18 = .ok (.ireturn, 1) := by decide +kernel
theorem dX12_load_19 : decode cX12_load 19 = .ok (.iload_n 2, 1) := by decide +kernel
theorem dX12_load_20 : decode cX12_load 20 = .ok (.i2l, 1) := by decide +kernel
theorem dX12_load_21 : decode cX12_load 21 = .ok (.lconst 0, 1) := by decide +kernel
theorem dX12_load_22 : decode cX12_load 22 = .ok (.ldc2_w 152, 3) := by decide +kernel
theorem dX12_load_25 : decode cX12_load 25 = .ok (.invokestatic 110, 3) := by decide +kernel
theorem dX12_load_28 : decode cX12_load 28 = .ok (.ifCond .ne 6, 3) := by decide +kernel
theorem dX12_load_31 : decode cX12_load 31 = .ok (.bipush (-2), 2) := by decide +kernel
theorem dX12_load_33 : decode cX12_load 33 = .ok (.ireturn, 1) := by decide +kernel
theorem dX12_load_34 : decode cX12_load 34 = .ok (.aload_n 0, 1) := by decide +kernel
theorem dX12_load_35 : decode cX12_load 35 = .ok (.getfield 118, 3) := by decide +kernel
theorem dX12_load_38 : decode cX12_load 38 = .ok (.ifCond .eq 6, 3) := by decide +kernel
theorem dX12_load_41 : decode cX12_load 41 = .ok (.bipush (-3), 2) := by decide +kernel
theorem dX12_load_43 : decode cX12_load 43 = .ok (.ireturn, 1) := by decide +kernel
theorem dX12_load_44 : decode cX12_load 44 = .ok (.aload_n 0, 1) := by decide +kernel
theorem dX12_load_45 : decode cX12_load 45 = .ok (.getfield 38, 3) := by decide +kernel
theorem dX12_load_48 : decode cX12_load 48 = .ok (.iload_n 1, 1) := by decide +kernel
theorem dX12_load_49 : decode cX12_load 49 = .ok (.iaload, 1) := by decide +kernel
theorem dX12_load_50 : decode cX12_load 50 = .ok (.bipush (-9), 2) := by decide +kernel
theorem dX12_load_52 : decode cX12_load 52 = .ok (.if_icmp .eq 19, 3) := by decide +kernel
theorem dX12_load_55 : decode cX12_load 55 = .ok (.aload_n 0, 1) := by decide +kernel
theorem dX12_load_56 : decode cX12_load 56 = .ok (.getfield 38, 3) := by decide +kernel
theorem dX12_load_59 : decode cX12_load 59 = .ok (.iload_n 1, 1) := by decide +kernel
theorem dX12_load_60 : decode cX12_load 60 = .ok (.iaload, 1) := by decide +kernel
theorem dX12_load_61 : decode cX12_load 61 = .ok (.iload_n 2, 1) := by decide +kernel
theorem dX12_load_62 : decode cX12_load 62 = .ok (.if_icmp .eq 9, 3) := by decide +kernel
theorem dX12_load_65 : decode cX12_load 65 = .ok (.aload_n 0, 1) := by decide +kernel
theorem dX12_load_66 : decode cX12_load 66 = .ok (.iconst 2, 1) := by decide +kernel
theorem dX12_load_67 : decode cX12_load 67 = .ok (.invokevirtual 154, 3) := by decide +kernel
theorem dX12_load_70 : decode cX12_load 70 = .ok (.ireturn, 1) := by decide +kernel
theorem dX12_load_71 : decode cX12_load 71 = .ok (.aload_n 0, 1) := by decide +kernel
theorem dX12_load_72 : decode cX12_load 72 = .ok (.getfield 38, 3) := by decide +kernel
theorem dX12_load_75 : decode cX12_load 75 = .ok (.iload_n 1, 1) := by decide +kernel
theorem dX12_load_76 : decode cX12_load 76 = .ok (.iaload, 1) := by decide +kernel
theorem dX12_load_77 : decode cX12_load 77 = .ok (.bipush (-9), 2) := by decide +kernel
theorem dX12_load_79 : decode cX12_load 79 = .ok (.if_icmp .ne 9, 3) := by decide +kernel
theorem dX12_load_82 : decode cX12_load 82 = .ok (.aload_n 0, 1) := by decide +kernel
theorem dX12_load_83 : decode cX12_load 83 = .ok (.iconst 1, 1) := by decide +kernel
theorem dX12_load_84 : decode cX12_load 84 = .ok (.invokevirtual 154, 3) := by decide +kernel
theorem dX12_load_87 : decode cX12_load 87 = .ok (.ireturn, 1) := by decide +kernel
theorem dX12_load_88 : decode cX12_load 88 = .ok (.iload 4, 2) := by decide +kernel
theorem dX12_load_90 : decode cX12_load 90 = .ok (.ifCond .ge 9, 3) := by decide +kernel
theorem dX12_load_93 : decode cX12_load 93 = .ok (.aload_n 0, 1) := by decide +kernel
theorem dX12_load_94 : decode cX12_load 94 = .ok (.iconst 4, 1) := by decide +kernel
theorem dX12_load_95 : decode cX12_load 95 = .ok (.invokevirtual 154, 3) := by decide +kernel
theorem dX12_load_98 : decode cX12_load 98 = .ok (.ireturn, 1) := by decide +kernel
theorem dX12_load_99 : decode cX12_load 99 = .ok (.iload_n 3, 1) := by decide +kernel
theorem dX12_load_100 : decode cX12_load 100 = .ok (.ifCond .lt 33, 3) := by decide +kernel
theorem dX12_load_103 : decode cX12_load 103 = .ok (.iload_n 3, 1) := by decide +kernel
theorem dX12_load_104 : decode cX12_load 104 = .ok (.aload_n 0, 1) := by decide +kernel
theorem dX12_load_105 : decode cX12_load 105 = .ok (.getfield 41, 3) := by decide +kernel
theorem dX12_load_108 : decode cX12_load 108 = .ok (.iload_n 1, 1) := by decide +kernel
theorem dX12_load_109 : decode cX12_load 109 = .ok (.iaload, 1) := by decide +kernel
theorem dX12_load_110 : decode cX12_load 110 = .ok (.if_icmp .gt 23, 3) := by decide +kernel
theorem dX12_load_113 : decode cX12_load 113 = .ok (.ldc2_w 158, 3) := by decide +kernel
theorem dX12_load_116 : decode cX12_load 116 = .ok (.iload 4, 2) := by decide +kernel
theorem dX12_load_118 : decode cX12_load 118 = .ok (.i2l, 1) := by decide +kernel
theorem dX12_load_119 : decode cX12_load 119 = .ok (.lmul, 1) := by decide +kernel
theorem dX12_load_120 : decode cX12_load 120 = .ok (.aload_n 0, 1) := by decide +kernel
theorem dX12_load_121 : decode cX12_load 121 = .ok (.getfield 41, 3) := by decide +kernel
theorem dX12_load_124 : decode cX12_load 124 = .ok (.iload_n 1, 1) := by decide +kernel
theorem dX12_load_125 : decode cX12_load 125 = .ok (.iaload, 1) := by decide +kernel
theorem dX12_load_126 : decode cX12_load 126 = .ok (.iload_n 3, 1) := by decide +kernel
theorem dX12_load_127 : decode cX12_load 127 = .ok (.isub, 1) := by decide +kernel
theorem dX12_load_128 : decode cX12_load 128 = .ok (.i2l, 1) := by decide +kernel
theorem dX12_load_129 : decode cX12_load 129 = .ok (.lcmp, 1) := by decide +kernel
theorem dX12_load_130 : decode cX12_load 130 = .ok (.ifCond .le 9, 3) := by decide +kernel
theorem dX12_load_133 : decode cX12_load 133 = .ok (.aload_n 0, 1) := by decide +kernel
theorem dX12_load_134 : decode cX12_load 134 = .ok (.iconst 3, 1) := by decide +kernel
theorem dX12_load_135 : decode cX12_load 135 = .ok (.invokevirtual 154, 3) := by decide +kernel
theorem dX12_load_138 : decode cX12_load 138 = .ok (.ireturn, 1) := by decide +kernel
theorem dX12_load_139 : decode cX12_load 139 = .ok (.iconst 0, 1) := by decide +kernel
theorem dX12_load_140 : decode cX12_load 140 = .ok (.istore 5, 2) := by decide +kernel
theorem dX12_load_142 : decode cX12_load 142 = .ok (.iload 5, 2) := by decide +kernel
theorem dX12_load_144 : decode cX12_load 144 = .ok (.iload 4, 2) := by decide +kernel
theorem dX12_load_146 : decode cX12_load 146 = .ok (.if_icmp .ge 72, 3) := by decide +kernel
theorem dX12_load_149 : decode cX12_load 149 = .ok (.bipush 40, 2) := by decide +kernel
theorem dX12_load_151 : decode cX12_load 151 = .ok (.iload_n 1, 1) := by decide +kernel
theorem dX12_load_152 : decode cX12_load 152 = .ok (.imul, 1) := by decide +kernel
theorem dX12_load_153 : decode cX12_load 153 = .ok (.iload_n 3, 1) := by decide +kernel
theorem dX12_load_154 : decode cX12_load 154 = .ok (.iadd, 1) := by decide +kernel
theorem dX12_load_155 : decode cX12_load 155 = .ok (.iconst 4, 1) := by decide +kernel
theorem dX12_load_156 : decode cX12_load 156 = .ok (.iload 5, 2) := by decide +kernel
theorem dX12_load_158 : decode cX12_load 158 = .ok (.imul, 1) := by decide +kernel
theorem dX12_load_159 : decode cX12_load 159 = .ok (.iadd, 1) := by decide +kernel
theorem dX12_load_160 : decode cX12_load 160 = .ok (.istore 6, 2) := by decide +kernel
theorem dX12_load_162 : decode cX12_load 162 = .ok (.aload_n 0, 1) := by decide +kernel
theorem dX12_load_163 : decode cX12_load 163 = .ok (.getfield 139, 3) := by decide +kernel
theorem dX12_load_166 : decode cX12_load 166 = .ok (.iload 5, 2) := by decide +kernel
theorem dX12_load_168 : decode cX12_load 168 = .ok (.iadd, 1) := by decide +kernel
theorem dX12_load_169 : decode cX12_load 169 = .ok (.aload_n 0, 1) := by decide +kernel
theorem dX12_load_170 : decode cX12_load 170 = .ok (.getfield 44, 3) := by decide +kernel
theorem dX12_load_173 : decode cX12_load 173 = .ok (.iload 6, 2) := by decide +kernel
theorem dX12_load_175 : decode cX12_load 175 = .ok (.iaload, 1) := by decide +kernel
theorem dX12_load_176 : decode cX12_load 176 = .ok (.aload_n 0, 1) := by decide +kernel
theorem dX12_load_177 : decode cX12_load 177 = .ok (.getfield 44, 3) := by decide +kernel
theorem dX12_load_180 : decode cX12_load 180 = .ok (.iload 6, 2) := by decide +kernel
theorem dX12_load_182 : decode cX12_load 182 = .ok (.iconst 1, 1) := by decide +kernel
theorem dX12_load_183 : decode cX12_load 183 = .ok (.iadd, 1) := by decide +kernel
theorem dX12_load_184 : decode cX12_load 184 = .ok (.iaload, 1) := by decide +kernel
theorem dX12_load_185 : decode cX12_load 185 = .ok (.aload_n 0, 1) := by decide +kernel
theorem dX12_load_186 : decode cX12_load 186 = .ok (.getfield 44, 3) := by decide +kernel
theorem dX12_load_189 : decode cX12_load 189 = .ok (.iload 6, 2) := by decide +kernel
theorem dX12_load_191 : decode cX12_load 191 = .ok (.iconst 2, 1) := by decide +kernel
theorem dX12_load_192 : decode cX12_load 192 = .ok (.iadd, 1) := by decide +kernel
theorem dX12_load_193 : decode cX12_load 193 = .ok (.iaload, 1) := by decide +kernel
theorem dX12_load_194 : decode cX12_load 194 = .ok (.aload_n 0, 1) := by decide +kernel
theorem dX12_load_195 : decode cX12_load 195 = .ok (.getfield 44, 3) := by decide +kernel
theorem dX12_load_198 : decode cX12_load 198 = .ok (.iload 6, 2) := by decide +kernel
theorem dX12_load_200 : decode cX12_load 200 = .ok (.iconst 3, 1) := by decide +kernel
theorem dX12_load_201 : decode cX12_load 201 = .ok (.iadd, 1) := by decide +kernel
theorem dX12_load_202 : decode cX12_load 202 = .ok (.iaload, 1) := by decide +kernel
theorem dX12_load_203 : decode cX12_load 203 = .ok (.invokestatic 142, 3) := by decide +kernel
theorem dX12_load_206 : decode cX12_load 206 = .ok (.ifCond .ne 6, 3) := by decide +kernel
theorem dX12_load_209 : decode cX12_load 209 = .ok (.bipush (-2), 2) := by decide +kernel
theorem dX12_load_211 : decode cX12_load 211 = .ok (.ireturn, 1) := by decide +kernel
theorem dX12_load_212 : decode cX12_load 212 = .ok (.iinc 5 1, 3) := by decide +kernel
theorem dX12_load_215 : decode cX12_load 215 = .ok (.goto (-73), 3) := by decide +kernel
theorem dX12_load_218 : decode cX12_load 218 = .ok (.aload_n 0, 1) := by decide +kernel
theorem dX12_load_219 : decode cX12_load 219 = .ok (.getfield 139, 3) := by decide +kernel
theorem dX12_load_222 : decode cX12_load 222 = .ok (.iload 4, 2) := by decide +kernel
theorem dX12_load_224 : decode cX12_load 224 = .ok (.iadd, 1) := by decide +kernel
theorem dX12_load_225 : decode cX12_load 225 = .ok (.bipush 30, 2) := by decide +kernel
theorem dX12_load_227 : decode cX12_load 227 = .ok (.if_icmp .le 6, 3) := by decide +kernel
theorem dX12_load_230 : decode cX12_load 230 = .ok (.bipush (-4), 2) := by decide +kernel
theorem dX12_load_232 : decode cX12_load 232 = .ok (.ireturn, 1) := by decide +kernel
theorem dX12_load_233 : decode cX12_load 233 = .ok (.iconst 0, 1) := by decide +kernel
theorem dX12_load_234 : decode cX12_load 234 = .ok (.istore 5, 2) := by decide +kernel
theorem dX12_load_236 : decode cX12_load 236 = .ok (.iload 5, 2) := by decide +kernel
theorem dX12_load_238 : decode cX12_load 238 = .ok (.iload 4, 2) := by decide +kernel
theorem dX12_load_240 : decode cX12_load 240 = .ok (.if_icmp .ge 60, 3) := by decide +kernel
theorem dX12_load_243 : decode cX12_load 243 = .ok (.bipush 40, 2) := by decide +kernel
theorem dX12_load_245 : decode cX12_load 245 = .ok (.iload_n 1, 1) := by decide +kernel
theorem dX12_load_246 : decode cX12_load 246 = .ok (.imul, 1) := by decide +kernel
theorem dX12_load_247 : decode cX12_load 247 = .ok (.iload_n 3, 1) := by decide +kernel
theorem dX12_load_248 : decode cX12_load 248 = .ok (.iadd, 1) := by decide +kernel
theorem dX12_load_249 : decode cX12_load 249 = .ok (.iconst 4, 1) := by decide +kernel
theorem dX12_load_250 : decode cX12_load 250 = .ok (.iload 5, 2) := by decide +kernel
theorem dX12_load_252 : decode cX12_load 252 = .ok (.imul, 1) := by decide +kernel
theorem dX12_load_253 : decode cX12_load 253 = .ok (.iadd, 1) := by decide +kernel
theorem dX12_load_254 : decode cX12_load 254 = .ok (.istore 6, 2) := by decide +kernel
theorem dX12_load_256 : decode cX12_load 256 = .ok (.aload_n 0, 1) := by decide +kernel
theorem dX12_load_257 : decode cX12_load 257 = .ok (.aload_n 0, 1) := by decide +kernel
theorem dX12_load_258 : decode cX12_load 258 = .ok (.getfield 44, 3) := by decide +kernel
theorem dX12_load_261 : decode cX12_load 261 = .ok (.iload 6, 2) := by decide +kernel
theorem dX12_load_263 : decode cX12_load 263 = .ok (.iaload, 1) := by decide +kernel
theorem dX12_load_264 : decode cX12_load 264 = .ok (.aload_n 0, 1) := by decide +kernel
theorem dX12_load_265 : decode cX12_load 265 = .ok (.getfield 44, 3) := by decide +kernel
theorem dX12_load_268 : decode cX12_load 268 = .ok (.iload 6, 2) := by decide +kernel
theorem dX12_load_270 : decode cX12_load 270 = .ok (.iconst 1, 1) := by decide +kernel
theorem dX12_load_271 : decode cX12_load 271 = .ok (.iadd, 1) := by decide +kernel
theorem dX12_load_272 : decode cX12_load 272 = .ok (.iaload, 1) := by decide +kernel
theorem dX12_load_273 : decode cX12_load 273 = .ok (.aload_n 0, 1) := by decide +kernel
theorem dX12_load_274 : decode cX12_load 274 = .ok (.getfield 44, 3) := by decide +kernel
theorem dX12_load_277 : decode cX12_load 277 = .ok (.iload 6, 2) := by decide +kernel
theorem dX12_load_279 : decode cX12_load 279 = .ok (.iconst 2, 1) := by decide +kernel
theorem dX12_load_280 : decode cX12_load 280 = .ok (.iadd, 1) := by decide +kernel
theorem dX12_load_281 : decode cX12_load 281 = .ok (.iaload, 1) := by decide +kernel
theorem dX12_load_282 : decode cX12_load 282 = .ok (.aload_n 0, 1) := by decide +kernel
theorem dX12_load_283 : decode cX12_load 283 = .ok (.getfield 44, 3) := by decide +kernel
theorem dX12_load_286 : decode cX12_load 286 = .ok (.iload 6, 2) := by decide +kernel
theorem dX12_load_288 : decode cX12_load 288 = .ok (.iconst 3, 1) := by decide +kernel
theorem dX12_load_289 : decode cX12_load 289 = .ok (.iadd, 1) := by decide +kernel
theorem dX12_load_290 : decode cX12_load 290 = .ok (.iaload, 1) := by decide +kernel
theorem dX12_load_291 : decode cX12_load 291 = .ok (.invokevirtual 146, 3) := by decide +kernel
theorem dX12_load_294 : decode cX12_load 294 = .ok (.iinc 5 1, 3) := by decide +kernel
theorem dX12_load_297 : decode cX12_load 297 = .ok (.goto (-61), 3) := by decide +kernel
theorem dX12_load_300 : decode cX12_load 300 = .ok (.aload_n 0, 1) := by decide +kernel
theorem dX12_load_301 : decode cX12_load 301 = .ok (.getfield 139, 3) := by decide +kernel
theorem dX12_load_304 : decode cX12_load 304 = .ok (.ireturn, 1) := by decide +kernel
theorem dX12_clear_0 : decode cX12_clear 0 = .ok (.aload_n 0, 1) := by decide +kernel
theorem dX12_clear_1 : decode cX12_clear 1 = .ok (.getfield 118, 3) := by decide +kernel
theorem dX12_clear_4 : decode cX12_clear 4 = .ok (.ifCond .eq 6, 3) := by decide +kernel
theorem dX12_clear_7 : decode cX12_clear 7 = .ok (.bipush (-3), 2) := by decide +kernel
theorem dX12_clear_9 : decode cX12_clear 9 = .ok (.ireturn, 1) := by decide +kernel
theorem dX12_clear_10 : decode cX12_clear 10 = .ok (.aload_n 0, 1) := by decide +kernel
theorem dX12_clear_11 : decode cX12_clear 11 = .ok (.getfield 139, 3) := by decide +kernel
theorem dX12_clear_14 : decode cX12_clear 14 = .ok (.istore_n 1, 1) := by decide +kernel
theorem dX12_clear_15 : decode cX12_clear 15 = .ok (.aload_n 0, 1) := by decide +kernel
theorem dX12_clear_16 : decode cX12_clear 16 = .ok (.iconst 0, 1) := by decide +kernel
theorem dX12_clear_17 : decode cX12_clear 17 = .ok (.putfield 139, 3) := by decide +kernel
theorem dX12_clear_20 : decode cX12_clear 20 = .ok (.iload_n 1, 1) := by decide +kernel
theorem dX12_clear_21 : decode cX12_clear 21 = .ok (.ireturn, 1) := by decide +kernel
theorem dX12_isStep_0 : decode cX12_isStep 0 = .ok (.iload_n 1, 1) := by decide +kernel
theorem dX12_isStep_1 : decode cX12_isStep 1 = .ok (.ifCond .lt 15, 3) := by decide +kernel
theorem dX12_isStep_4 : decode cX12_isStep 4 = .ok (.iload_n 1, 1) := by decide +kernel
theorem dX12_isStep_5 : decode cX12_isStep 5 = .ok (.aload_n 0, 1) := by decide +kernel
theorem dX12_isStep_6 : decode cX12_isStep 6 = .ok (.getfield 139, 3) := by decide +kernel
theorem dX12_isStep_9 : decode cX12_isStep 9 = .ok (.if_icmp .ge 7, 3) := by decide +kernel
theorem dX12_isStep_12 : decode cX12_isStep 12 = .ok (.iconst 1, 1) := by decide +kernel
theorem dX12_isStep_13 : decode cX12_isStep 13 = .ok (.goto 4, 3) := by decide +kernel
theorem dX12_isStep_16 : decode cX12_isStep 16 = .ok (.iconst 0, 1) := by decide +kernel
theorem dX12_isStep_17 : decode cX12_isStep 17 = .ok (.ireturn, 1) := by decide +kernel
theorem dX12_stepped_0 : decode cX12_stepped 0 = .ok (.aload_n 0, 1) := by decide +kernel
theorem dX12_stepped_1 : decode cX12_stepped 1 = .ok (.iload_n 1, 1) := by decide +kernel
theorem dX12_stepped_2 : decode cX12_stepped 2 = .ok (.invokevirtual 160, 3) := by decide +kernel
theorem dX12_stepped_5 : decode cX12_stepped 5 = .ok (.ifCond .ne 5, 3) := by decide +kernel
theorem dX12_stepped_8 : decode cX12_stepped 8 = .ok (.iconst (-1), 1) := by decide +kernel
theorem dX12_stepped_9 : decode cX12_stepped 9 = .ok (.ireturn, 1) := by decide +kernel
theorem dX12_stepped_10 : decode cX12_stepped 10 = .ok (.iload_n 2, 1) := by decide +kernel
theorem dX12_stepped_11 : decode cX12_stepped 11 = .ok (.tableswitch 57 0 3 #[29, 36, 43, 50], 29) := by decide +kernel
theorem dX12_stepped_40 : decode cX12_stepped 40 = .ok (.aload_n 0, 1) := by decide +kernel
theorem dX12_stepped_41 : decode cX12_stepped 41 = .ok (.getfield 23, 3) := by decide +kernel
theorem dX12_stepped_44 : decode cX12_stepped 44 = .ok (.iload_n 1, 1) := by decide +kernel
theorem dX12_stepped_45 : decode cX12_stepped 45 = .ok (.iaload, 1) := by decide +kernel
theorem dX12_stepped_46 : decode cX12_stepped 46 = .ok (.ireturn, 1) := by decide +kernel
theorem dX12_stepped_47 : decode cX12_stepped 47 = .ok (.aload_n 0, 1) := by decide +kernel
theorem dX12_stepped_48 : decode cX12_stepped 48 = .ok (.getfield 26, 3) := by decide +kernel
theorem dX12_stepped_51 : decode cX12_stepped 51 = .ok (.iload_n 1, 1) := by decide +kernel
theorem dX12_stepped_52 : decode cX12_stepped 52 = .ok (.iaload, 1) := by decide +kernel
theorem dX12_stepped_53 : decode cX12_stepped 53 = .ok (.ireturn, 1) := by decide +kernel
theorem dX12_stepped_54 : decode cX12_stepped 54 = .ok (.aload_n 0, 1) := by decide +kernel
theorem dX12_stepped_55 : decode cX12_stepped 55 = .ok (.getfield 29, 3) := by decide +kernel
theorem dX12_stepped_58 : decode cX12_stepped 58 = .ok (.iload_n 1, 1) := by decide +kernel
theorem dX12_stepped_59 : decode cX12_stepped 59 = .ok (.iaload, 1) := by decide +kernel
theorem dX12_stepped_60 : decode cX12_stepped 60 = .ok (.ireturn, 1) := by decide +kernel
theorem dX12_stepped_61 : decode cX12_stepped 61 = .ok (.aload_n 0, 1) := by decide +kernel
theorem dX12_stepped_62 : decode cX12_stepped 62 = .ok (.getfield 32, 3) := by decide +kernel
theorem dX12_stepped_65 : decode cX12_stepped 65 = .ok (.iload_n 1, 1) := by decide +kernel
theorem dX12_stepped_66 : decode cX12_stepped 66 = .ok (.iaload, 1) := by decide +kernel
theorem dX12_stepped_67 : decode cX12_stepped 67 = .ok (.ireturn, 1) := by decide +kernel
theorem dX12_stepped_68 : decode cX12_stepped 68 = .ok (.bipush (-2), 2) := by decide +kernel
theorem dX12_stepped_70 : decode cX12_stepped 70 = .ok (.ireturn, 1) := by decide +kernel
theorem dX12_start_0 : decode cX12_start 0 = .ok (.aload_n 0, 1) := by decide +kernel
theorem dX12_start_1 : decode cX12_start 1 = .ok (.getfield 118, 3) := by decide +kernel
theorem dX12_start_4 : decode cX12_start 4 = .ok (.ifCond .ne 10, 3) := by decide +kernel
theorem dX12_start_7 : decode cX12_start 7 = .ok (.aload_n 0, 1) := by decide +kernel
theorem dX12_start_8 : decode cX12_start 8 = .ok (.getfield 139, 3) := by decide +kernel
theorem dX12_start_11 : decode cX12_start 11 = .ok (.ifCond .ne 6, 3) := by decide +kernel
theorem dX12_start_14 : decode cX12_start 14 = .ok (.bipush (-3), 2) := by decide +kernel
theorem dX12_start_16 : decode cX12_start 16 = .ok (.ireturn, 1) := by decide +kernel
theorem dX12_start_17 : decode cX12_start 17 = .ok (.aload_n 0, 1) := by decide +kernel
theorem dX12_start_18 : decode cX12_start 18 = .ok (.iconst 1, 1) := by decide +kernel
theorem dX12_start_19 : decode cX12_start 19 = .ok (.putfield 118, 3) := by decide +kernel
theorem dX12_start_22 : decode cX12_start 22 = .ok (.aload_n 0, 1) := by decide +kernel
theorem dX12_start_23 : decode cX12_start 23 = .ok (.iconst 0, 1) := by decide +kernel
theorem dX12_start_24 : decode cX12_start 24 = .ok (.putfield 164, 3) := by decide +kernel
theorem dX12_start_27 : decode cX12_start 27 = .ok (.aload_n 0, 1) := by decide +kernel
theorem dX12_start_28 : decode cX12_start 28 = .ok (.iconst 0, 1) := by decide +kernel
theorem dX12_start_29 : decode cX12_start 29 = .ok (.putfield 167, 3) := by decide +kernel
theorem dX12_start_32 : decode cX12_start 32 = .ok (.iconst 0, 1) := by decide +kernel
theorem dX12_start_33 : decode cX12_start 33 = .ok (.istore_n 1, 1) := by decide +kernel
theorem dX12_start_34 : decode cX12_start 34 = .ok (.iload_n 1, 1) := by decide +kernel
theorem dX12_start_35 : decode cX12_start 35 = .ok (.bipush 30, 2) := by decide +kernel
theorem dX12_start_37 : decode cX12_start 37 = .ok (.if_icmp .ge 16, 3) := by decide +kernel
theorem dX12_start_40 : decode cX12_start 40 = .ok (.aload_n 0, 1) := by decide +kernel
theorem dX12_start_41 : decode cX12_start 41 = .ok (.getfield 35, 3) := by decide +kernel
theorem dX12_start_44 : decode cX12_start 44 = .ok (.iload_n 1, 1) := by decide +kernel
theorem dX12_start_45 : decode cX12_start 45 = .ok (.iconst 0, 1) := by decide +kernel
theorem dX12_start_46 : decode cX12_start 46 = .ok (.iastore, 1) := by decide +kernel
theorem dX12_start_47 : decode cX12_start 47 = .ok (.iinc 1 1, 3) := by decide +kernel
theorem dX12_start_50 : decode cX12_start 50 = .ok (.goto (-16), 3) := by decide +kernel
theorem dX12_start_53 : decode cX12_start 53 = .ok (.iconst 1, 1) := by decide +kernel
theorem dX12_start_54 : decode cX12_start 54 = .ok (.ireturn, 1) := by decide +kernel
theorem dX12_stopBy_0 : decode cX12_stopBy 0 = .ok (.aload_n 0, 1) := by decide +kernel
theorem dX12_stopBy_1 : decode cX12_stopBy 1 = .ok (.iload_n 1, 1) := by decide +kernel
theorem dX12_stopBy_2 : decode cX12_stopBy 2 = .ok (.putfield 17, 3) := by decide +kernel
theorem dX12_stopBy_5 : decode cX12_stopBy 5 = .ok (.aload_n 0, 1) := by decide +kernel
theorem dX12_stopBy_6 : decode cX12_stopBy 6 = .ok (.iconst 2, 1) := by decide +kernel
theorem dX12_stopBy_7 : decode cX12_stopBy 7 = .ok (.putfield 118, 3) := by decide +kernel
theorem dX12_stopBy_10 : decode cX12_stopBy 10 = .ok (.aload_n 0, 1) := by decide +kernel
theorem dX12_stopBy_11 : decode cX12_stopBy 11 = .ok (.iconst 0, 1) := by decide +kernel
theorem dX12_stopBy_12 : decode cX12_stopBy 12 = .ok (.putfield 170, 3) := by decide +kernel
theorem dX12_stopBy_15 : decode cX12_stopBy 15 = .ok (.return_, 1) := by decide +kernel
theorem dX12_goOn_0 : decode cX12_goOn 0 = .ok (.iconst 0, 1) := by decide +kernel
theorem dX12_goOn_1 : decode cX12_goOn 1 = .ok (.istore_n 1, 1) := by decide +kernel
theorem dX12_goOn_2 : decode cX12_goOn 2 = .ok (.aload_n 0, 1) := by decide +kernel
theorem dX12_goOn_3 : decode cX12_goOn 3 = .ok (.getfield 118, 3) := by decide +kernel
theorem dX12_goOn_6 : decode cX12_goOn 6 = .ok (.iconst 1, 1) := by decide +kernel
theorem dX12_goOn_7 : decode cX12_goOn 7 = .ok (.if_icmp .ne 220, 3) := by decide +kernel
theorem dX12_goOn_10 : decode cX12_goOn 10 = .ok (.aload_n 0, 1) := by decide +kernel
theorem dX12_goOn_11 : decode cX12_goOn 11 = .ok (.getfield 164, 3) := by decide +kernel
theorem dX12_goOn_14 : decode cX12_goOn 14 = .ok (.aload_n 0, 1) := by decide +kernel
theorem dX12_goOn_15 : decode cX12_goOn 15 = .ok (.getfield 139, 3) := by decide +kernel
theorem dX12_goOn_18 : decode cX12_goOn 18 = .ok (.if_icmp .ne 9, 3) := by decide +kernel
theorem dX12_goOn_21 : decode cX12_goOn 21 = .ok (.aload_n 0, 1) := by decide +kernel
theorem dX12_goOn_22 : decode cX12_goOn 22 = .ok (.iconst 0, 1) := by decide +kernel
theorem dX12_goOn_23 : decode cX12_goOn 23 = .ok (.invokevirtual 173, 3) := by decide +kernel
theorem dX12_goOn_26 : decode cX12_goOn 26 = .ok (.return_, 1) := by decide +kernel
theorem dX12_goOn_27 : decode cX12_goOn 27 = .ok (.iinc 1 1, 3) := by decide +kernel
theorem dX12_goOn_30 : decode cX12_goOn 30 = .ok (.iload_n 1, 1) := by decide +kernel
theorem dX12_goOn_31 : decode cX12_goOn 31 = .ok (.bipush 50, 2) := by decide +kernel
theorem dX12_goOn_33 : decode cX12_goOn 33 = .ok (.if_icmp .le 9, 3) := by decide +kernel
theorem dX12_goOn_36 : decode cX12_goOn 36 = .ok (.aload_n 0, 1) := by decide +kernel
theorem dX12_goOn_37 : decode cX12_goOn 37 = .ok (.iconst 3, 1) := by decide +kernel
theorem dX12_goOn_38 : decode cX12_goOn 38 = .ok (.invokevirtual 173, 3) := by decide +kernel
theorem dX12_goOn_41 : decode cX12_goOn 41 = .ok (.return_, 1) := by decide +kernel
theorem dX12_goOn_42 : decode cX12_goOn 42 = .ok (.aload_n 0, 1) := by decide +kernel
theorem dX12_goOn_43 : decode cX12_goOn 43 = .ok (.getfield 23, 3) := by decide +kernel
theorem dX12_goOn_46 : decode cX12_goOn 46 = .ok (.aload_n 0, 1) := by decide +kernel
theorem dX12_goOn_47 : decode cX12_goOn 47 = .ok (.getfield 164, 3) := by decide +kernel
theorem dX12_goOn_50 : decode cX12_goOn 50 = .ok (.iaload, 1) := by decide +kernel
theorem dX12_goOn_51 : decode cX12_goOn 51 = .ok (.tableswitch 129 0 3 #[29, 43, 48, 56], 29) := by decide +kernel
theorem dX12_goOn_80 : decode cX12_goOn 80 = .ok (.aload_n 0, 1) := by decide +kernel
theorem dX12_goOn_81 : decode cX12_goOn 81 = .ok (.aload_n 0, 1) := by decide +kernel
theorem dX12_goOn_82 : decode cX12_goOn 82 = .ok (.getfield 26, 3) := by decide +kernel
theorem dX12_goOn_85 : decode cX12_goOn 85 = .ok (.aload_n 0, 1) := by decide +kernel
theorem dX12_goOn_86 : decode cX12_goOn 86 = .ok (.getfield 164, 3) := by decide +kernel
theorem dX12_goOn_89 : decode cX12_goOn 89 = .ok (.iaload, 1) := by decide +kernel
theorem dX12_goOn_90 : decode cX12_goOn 90 = .ok (.invokevirtual 177, 3) := by decide +kernel
theorem dX12_goOn_93 : decode cX12_goOn 93 = .ok (.return_, 1) := by decide +kernel
theorem dX12_goOn_94 : decode cX12_goOn 94 = .ok (.aload_n 0, 1) := by decide +kernel
theorem dX12_goOn_95 : decode cX12_goOn 95 = .ok (.invokevirtual 180, 3) := by decide +kernel
theorem dX12_goOn_98 : decode cX12_goOn 98 = .ok (.return_, 1) := by decide +kernel
theorem dX12_goOn_99 : decode cX12_goOn 99 = .ok (.aload_n 0, 1) := by decide +kernel
theorem dX12_goOn_100 : decode cX12_goOn 100 = .ok (.invokevirtual 183, 3) := by decide +kernel
theorem dX12_goOn_103 : decode cX12_goOn 103 = .ok (.ifCond .eq (-101), 3) := by decide +kernel
theorem dX12_goOn_106 : decode cX12_goOn 106 = .ok (.return_, 1) := by decide +kernel
theorem dX12_goOn_107 : decode cX12_goOn 107 = .ok (.aload_n 0, 1) := by decide +kernel
theorem dX12_goOn_108 : decode cX12_goOn 108 = .ok (.getfield 35, 3) := by decide +kernel
theorem dX12_goOn_111 : decode cX12_goOn 111 = .ok (.aload_n 0, 1) := by decide +kernel
theorem dX12_goOn_112 : decode cX12_goOn 112 = .ok (.getfield 164, 3) := by decide +kernel
theorem dX12_goOn_115 : decode cX12_goOn 115 = .ok (.iaload, 1) := by decide +kernel
theorem dX12_goOn_116 : decode cX12_goOn 116 = .ok (.aload_n 0, 1) := by decide +kernel
theorem dX12_goOn_117 : decode cX12_goOn 117 = .ok (.getfield 29, 3) := by decide +kernel
theorem dX12_goOn_120 : decode cX12_goOn 120 = .ok (.aload_n 0, 1) := by decide +kernel
theorem dX12_goOn_121 : decode cX12_goOn 121 = .ok (.getfield 164, 3) := by decide +kernel
theorem dX12_goOn_124 : decode cX12_goOn 124 = .ok (.iaload, 1) := by decide +kernel
theorem dX12_goOn_125 : decode cX12_goOn 125 = .ok (.if_icmp .ge 32, 3) := by decide +kernel
theorem dX12_goOn_128 : decode cX12_goOn 128 = .ok (.aload_n 0, 1) := by decide +kernel
theorem dX12_goOn_129 : decode cX12_goOn 129 = .ok (.getfield 35, 3) := by decide +kernel
theorem dX12_goOn_132 : decode cX12_goOn 132 = .ok (.aload_n 0, 1) := by decide +kernel
theorem dX12_goOn_133 : decode cX12_goOn 133 = .ok (.getfield 164, 3) := by decide +kernel
theorem dX12_goOn_136 : decode cX12_goOn 136 = .ok (.dup2, 1) := by decide +kernel
theorem dX12_goOn_137 : decode cX12_goOn 137 = .ok (.iaload, 1) := by decide +kernel
theorem dX12_goOn_138 : decode cX12_goOn 138 = .ok (.iconst 1, 1) := by decide +kernel
theorem dX12_goOn_139 : decode cX12_goOn 139 = .ok (.iadd, 1) := by decide +kernel
theorem dX12_goOn_140 : decode cX12_goOn 140 = .ok (.iastore, 1) := by decide +kernel
theorem dX12_goOn_141 : decode cX12_goOn 141 = .ok (.aload_n 0, 1) := by decide +kernel
theorem dX12_goOn_142 : decode cX12_goOn 142 = .ok (.aload_n 0, 1) := by decide +kernel
theorem dX12_goOn_143 : decode cX12_goOn 143 = .ok (.getfield 26, 3) := by decide +kernel
theorem dX12_goOn_146 : decode cX12_goOn 146 = .ok (.aload_n 0, 1) := by decide +kernel
theorem dX12_goOn_147 : decode cX12_goOn 147 = .ok (.getfield 164, 3) := by decide +kernel
theorem dX12_goOn_150 : decode cX12_goOn 150 = .ok (.iaload, 1) := by decide +kernel
theorem dX12_goOn_151 : decode cX12_goOn 151 = .ok (.putfield 164, 3) := by decide +kernel
theorem dX12_goOn_154 : decode cX12_goOn 154 = .ok (.goto (-152), 3) := by decide +kernel
theorem dX12_goOn_157 : decode cX12_goOn 157 = .ok (.aload_n 0, 1) := by decide +kernel
theorem dX12_goOn_158 : decode cX12_goOn 158 = .ok (.getfield 35, 3) := by decide +kernel
theorem dX12_goOn_161 : decode cX12_goOn 161 = .ok (.aload_n 0, 1) := by decide +kernel
theorem dX12_goOn_162 : decode cX12_goOn 162 = .ok (.getfield 164, 3) := by decide +kernel
theorem dX12_goOn_165 : decode cX12_goOn 165 = .ok (.iconst 0, 1) := by decide +kernel
theorem dX12_goOn_166 : decode cX12_goOn 166 = .ok (.iastore, 1) := by decide +kernel
theorem dX12_goOn_167 : decode cX12_goOn 167 = .ok (.aload_n 0, 1) := by decide +kernel
theorem dX12_goOn_168 : decode cX12_goOn 168 = .ok (.dup, 1) := by decide +kernel
theorem dX12_goOn_169 : decode cX12_goOn 169 = .ok (.getfield 164, 3) := by decide +kernel
theorem dX12_goOn_172 : decode cX12_goOn 172 = .ok (.iconst 1, 1) := by decide +kernel
theorem dX12_goOn_173 : decode cX12_goOn 173 = .ok (.iadd, 1) := by decide +kernel
theorem dX12_goOn_174 : decode cX12_goOn 174 = .ok (.putfield 164, 3) := by decide +kernel
theorem dX12_goOn_177 : decode cX12_goOn 177 = .ok (.goto (-175), 3) := by decide +kernel
theorem dX12_goOn_180 : decode cX12_goOn 180 = .ok (.aload_n 0, 1) := by decide +kernel
theorem dX12_goOn_181 : decode cX12_goOn 181 = .ok (.getfield 187, 3) := by decide +kernel
theorem dX12_goOn_184 : decode cX12_goOn 184 = .ok (.bipush 20, 2) := by decide +kernel
theorem dX12_goOn_186 : decode cX12_goOn 186 = .ok (.if_icmp .ge 28, 3) := by decide +kernel
theorem dX12_goOn_189 : decode cX12_goOn 189 = .ok (.aload_n 0, 1) := by decide +kernel
theorem dX12_goOn_190 : decode cX12_goOn 190 = .ok (.getfield 47, 3) := by decide +kernel
theorem dX12_goOn_193 : decode cX12_goOn 193 = .ok (.aload_n 0, 1) := by decide +kernel
theorem dX12_goOn_194 : decode cX12_goOn 194 = .ok (.getfield 187, 3) := by decide +kernel
theorem dX12_goOn_197 : decode cX12_goOn 197 = .ok (.aload_n 0, 1) := by decide +kernel
theorem dX12_goOn_198 : decode cX12_goOn 198 = .ok (.getfield 190, 3) := by decide +kernel
theorem dX12_goOn_201 : decode cX12_goOn 201 = .ok (.iconst 1, 1) := by decide +kernel
theorem dX12_goOn_202 : decode cX12_goOn 202 = .ok (.iadd, 1) := by decide +kernel
theorem dX12_goOn_203 : decode cX12_goOn 203 = .ok (.iastore, 1) := by decide +kernel
theorem dX12_goOn_204 : decode cX12_goOn 204 = .ok (.aload_n 0, 1) := by decide +kernel
theorem dX12_goOn_205 : decode cX12_goOn 205 = .ok (.dup, 1) := by decide +kernel
theorem dX12_goOn_206 : decode cX12_goOn 206 = .ok (.getfield 187, 3) := by decide +kernel
theorem dX12_goOn_209 : decode cX12_goOn 209 = .ok (.iconst 1, 1) := by decide +kernel
theorem dX12_goOn_210 : decode cX12_goOn 210 = .ok (.iadd, 1) := by decide +kernel
theorem dX12_goOn_211 : decode cX12_goOn 211 = .ok (.putfield 187, 3) := by decide +kernel
theorem dX12_goOn_214 : decode cX12_goOn 214 = .ok (.aload_n 0, 1) := by decide +kernel
theorem dX12_goOn_215 : decode cX12_goOn 215 = .ok (.dup, 1) := by decide +kernel
theorem dX12_goOn_216 : decode cX12_goOn 216 = .ok (.getfield 164, 3) := by decide +kernel
theorem dX12_goOn_219 : decode cX12_goOn 219 = .ok (.iconst 1, 1) := by decide +kernel
theorem dX12_goOn_220 : decode cX12_goOn 220 = .ok (.iadd, 1) := by decide +kernel
theorem dX12_goOn_221 : decode cX12_goOn 221 = .ok (.putfield 164, 3) := by decide +kernel
theorem dX12_goOn_224 : decode cX12_goOn 224 = .ok (.goto (-222), 3) := by decide +kernel
theorem dX12_goOn_227 : decode cX12_goOn 227 = .ok (.return_, 1) := by decide +kernel
theorem dX12_passes_0 : decode cX12_passes 0 = .ok (.aload_n 0, 1) := by decide +kernel
theorem dX12_passes_1 : decode cX12_passes 1 = .ok (.dup, 1) := by decide +kernel
theorem dX12_passes_2 : decode cX12_passes 2 = .ok (.getfield 167, 3) := by decide +kernel
theorem dX12_passes_5 : decode cX12_passes 5 = .ok (.iconst 1, 1) := by decide +kernel
theorem dX12_passes_6 : decode cX12_passes 6 = .ok (.iadd, 1) := by decide +kernel
theorem dX12_passes_7 : decode cX12_passes 7 = .ok (.putfield 167, 3) := by decide +kernel
theorem dX12_passes_10 : decode cX12_passes 10 = .ok (.aload_n 0, 1) := by decide +kernel
theorem dX12_passes_11 : decode cX12_passes 11 = .ok (.getfield 167, 3) := by decide +kernel
theorem dX12_passes_14 : decode cX12_passes 14 = .ok (.iload_n 1, 1) := by decide +kernel
theorem dX12_passes_15 : decode cX12_passes 15 = .ok (.if_icmp .ne 18, 3) := by decide +kernel
theorem dX12_passes_18 : decode cX12_passes 18 = .ok (.aload_n 0, 1) := by decide +kernel
theorem dX12_passes_19 : decode cX12_passes 19 = .ok (.iconst 0, 1) := by decide +kernel
theorem dX12_passes_20 : decode cX12_passes 20 = .ok (.putfield 167, 3) := by decide +kernel
theorem dX12_passes_23 : decode cX12_passes 23 = .ok (.aload_n 0, 1) := by decide +kernel
theorem dX12_passes_24 : decode cX12_passes 24 = .ok (.dup, 1) := by decide +kernel
theorem dX12_passes_25 : decode cX12_passes 25 = .ok (.getfield 164, 3) := by decide +kernel
theorem dX12_passes_28 : decode cX12_passes 28 = .ok (.iconst 1, 1) := by decide +kernel
theorem dX12_passes_29 : decode cX12_passes 29 = .ok (.iadd, 1) := by decide +kernel
theorem dX12_passes_30 : decode cX12_passes 30 = .ok (.putfield 164, 3) := by decide +kernel
theorem dX12_passes_33 : decode cX12_passes 33 = .ok (.return_, 1) := by decide +kernel
theorem dX12_ramp_0 : decode cX12_ramp 0 = .ok (.aload_n 0, 1) := by decide +kernel
theorem dX12_ramp_1 : decode cX12_ramp 1 = .ok (.getfield 167, 3) := by decide +kernel
theorem dX12_ramp_4 : decode cX12_ramp 4 = .ok (.ifCond .ne 19, 3) := by decide +kernel
theorem dX12_ramp_7 : decode cX12_ramp 7 = .ok (.aload_n 0, 1) := by decide +kernel
theorem dX12_ramp_8 : decode cX12_ramp 8 = .ok (.aload_n 0, 1) := by decide +kernel
theorem dX12_ramp_9 : decode cX12_ramp 9 = .ok (.getfield 193, 3) := by decide +kernel
theorem dX12_ramp_12 : decode cX12_ramp 12 = .ok (.putfield 196, 3) := by decide +kernel
theorem dX12_ramp_15 : decode cX12_ramp 15 = .ok (.aload_n 0, 1) := by decide +kernel
theorem dX12_ramp_16 : decode cX12_ramp 16 = .ok (.aload_n 0, 1) := by decide +kernel
theorem dX12_ramp_17 : decode cX12_ramp 17 = .ok (.getfield 199, 3) := by decide +kernel
theorem dX12_ramp_20 : decode cX12_ramp 20 = .ok (.putfield 202, 3) := by decide +kernel
theorem dX12_ramp_23 : decode cX12_ramp 23 = .ok (.aload_n 0, 1) := by decide +kernel
theorem dX12_ramp_24 : decode cX12_ramp 24 = .ok (.getfield 167, 3) := by decide +kernel
theorem dX12_ramp_27 : decode cX12_ramp 27 = .ok (.iconst 1, 1) := by decide +kernel
theorem dX12_ramp_28 : decode cX12_ramp 28 = .ok (.iadd, 1) := by decide +kernel
theorem dX12_ramp_29 : decode cX12_ramp 29 = .ok (.istore_n 1, 1) := by decide +kernel
theorem dX12_ramp_30 : decode cX12_ramp 30 = .ok (.aload_n 0, 1) := by decide +kernel
theorem dX12_ramp_31 : decode cX12_ramp 31 = .ok (.aload_n 0, 1) := by decide +kernel
theorem dX12_ramp_32 : decode cX12_ramp 32 = .ok (.getfield 196, 3) := by decide +kernel
theorem dX12_ramp_35 : decode cX12_ramp 35 = .ok (.iload_n 1, 1) := by decide +kernel
theorem dX12_ramp_36 : decode cX12_ramp 36 = .ok (.aload_n 0, 1) := by decide +kernel
theorem dX12_ramp_37 : decode cX12_ramp 37 = .ok (.getfield 29, 3) := by decide +kernel
theorem dX12_ramp_40 : decode cX12_ramp 40 = .ok (.aload_n 0, 1) := by decide +kernel
theorem dX12_ramp_41 : decode cX12_ramp 41 = .ok (.getfield 164, 3) := by decide +kernel
theorem dX12_ramp_44 : decode cX12_ramp 44 = .ok (.iaload, 1) := by decide +kernel
theorem dX12_ramp_45 : decode cX12_ramp 45 = .ok (.aload_n 0, 1) := by decide +kernel
theorem dX12_ramp_46 : decode cX12_ramp 46 = .ok (.getfield 196, 3) := by decide +kernel
theorem dX12_ramp_49 : decode cX12_ramp 49 = .ok (.isub, 1) := by decide +kernel
theorem dX12_ramp_50 : decode cX12_ramp 50 = .ok (.imul, 1) := by decide +kernel
theorem dX12_ramp_51 : decode cX12_ramp 51 = .ok (.aload_n 0, 1) := by decide +kernel
theorem dX12_ramp_52 : decode cX12_ramp 52 = .ok (.getfield 26, 3) := by decide +kernel
theorem dX12_ramp_55 : decode cX12_ramp 55 = .ok (.aload_n 0, 1) := by decide +kernel
theorem dX12_ramp_56 : decode cX12_ramp 56 = .ok (.getfield 164, 3) := by decide +kernel
theorem dX12_ramp_59 : decode cX12_ramp 59 = .ok (.iaload, 1) := by decide +kernel
theorem dX12_ramp_60 : decode cX12_ramp 60 = .ok (.idiv, 1) := by decide +kernel
theorem dX12_ramp_61 : decode cX12_ramp 61 = .ok (.iadd, 1) := by decide +kernel
theorem dX12_ramp_62 : decode cX12_ramp 62 = .ok (.putfield 193, 3) := by decide +kernel
theorem dX12_ramp_65 : decode cX12_ramp 65 = .ok (.aload_n 0, 1) := by decide +kernel
theorem dX12_ramp_66 : decode cX12_ramp 66 = .ok (.aload_n 0, 1) := by decide +kernel
theorem dX12_ramp_67 : decode cX12_ramp 67 = .ok (.getfield 202, 3) := by decide +kernel
theorem dX12_ramp_70 : decode cX12_ramp 70 = .ok (.iload_n 1, 1) := by decide +kernel
theorem dX12_ramp_71 : decode cX12_ramp 71 = .ok (.aload_n 0, 1) := by decide +kernel
theorem dX12_ramp_72 : decode cX12_ramp 72 = .ok (.getfield 32, 3) := by decide +kernel
theorem dX12_ramp_75 : decode cX12_ramp 75 = .ok (.aload_n 0, 1) := by decide +kernel
theorem dX12_ramp_76 : decode cX12_ramp 76 = .ok (.getfield 164, 3) := by decide +kernel
theorem dX12_ramp_79 : decode cX12_ramp 79 = .ok (.iaload, 1) := by decide +kernel
theorem dX12_ramp_80 : decode cX12_ramp 80 = .ok (.aload_n 0, 1) := by decide +kernel
theorem dX12_ramp_81 : decode cX12_ramp 81 = .ok (.getfield 202, 3) := by decide +kernel
theorem dX12_ramp_84 : decode cX12_ramp 84 = .ok (.isub, 1) := by decide +kernel
theorem dX12_ramp_85 : decode cX12_ramp 85 = .ok (.imul, 1) := by decide +kernel
theorem dX12_ramp_86 : decode cX12_ramp 86 = .ok (.aload_n 0, 1) := by decide +kernel
theorem dX12_ramp_87 : decode cX12_ramp 87 = .ok (.getfield 26, 3) := by decide +kernel
theorem dX12_ramp_90 : decode cX12_ramp 90 = .ok (.aload_n 0, 1) := by decide +kernel
theorem dX12_ramp_91 : decode cX12_ramp 91 = .ok (.getfield 164, 3) := by decide +kernel
theorem dX12_ramp_94 : decode cX12_ramp 94 = .ok (.iaload, 1) := by decide +kernel
theorem dX12_ramp_95 : decode cX12_ramp 95 = .ok (.idiv, 1) := by decide +kernel
theorem dX12_ramp_96 : decode cX12_ramp 96 = .ok (.iadd, 1) := by decide +kernel
theorem dX12_ramp_97 : decode cX12_ramp 97 = .ok (.putfield 199, 3) := by decide +kernel
theorem dX12_ramp_100 : decode cX12_ramp 100 = .ok (.aload_n 0, 1) := by decide +kernel
theorem dX12_ramp_101 : decode cX12_ramp 101 = .ok (.aload_n 0, 1) := by decide +kernel
theorem dX12_ramp_102 : decode cX12_ramp 102 = .ok (.getfield 26, 3) := by decide +kernel
theorem dX12_ramp_105 : decode cX12_ramp 105 = .ok (.aload_n 0, 1) := by decide +kernel
theorem dX12_ramp_106 : decode cX12_ramp 106 = .ok (.getfield 164, 3) := by decide +kernel
theorem dX12_ramp_109 : decode cX12_ramp 109 = .ok (.iaload, 1) := by decide +kernel
theorem dX12_ramp_110 : decode cX12_ramp 110 = .ok (.invokevirtual 177, 3) := by decide +kernel
theorem dX12_ramp_113 : decode cX12_ramp 113 = .ok (.return_, 1) := by decide +kernel
theorem dX12_waits_0 : decode cX12_waits 0 = .ok (.aload_n 0, 1) := by decide +kernel
theorem dX12_waits_1 : decode cX12_waits 1 = .ok (.getfield 26, 3) := by decide +kernel
theorem dX12_waits_4 : decode cX12_waits 4 = .ok (.aload_n 0, 1) := by decide +kernel
theorem dX12_waits_5 : decode cX12_waits 5 = .ok (.getfield 164, 3) := by decide +kernel
theorem dX12_waits_8 : decode cX12_waits 8 = .ok (.iaload, 1) := by decide +kernel
theorem dX12_waits_9 : decode cX12_waits 9 = .ok (.istore_n 1, 1) := by decide +kernel
theorem dX12_waits_10 : decode cX12_waits 10 = .ok (.iload_n 1, 1) := by decide +kernel
theorem dX12_waits_11 : decode cX12_waits 11 = .ok (.ifCond .lt 11, 3) := by decide +kernel
theorem dX12_waits_14 : decode cX12_waits 14 = .ok (.iload_n 1, 1) := by decide +kernel
theorem dX12_waits_15 : decode cX12_waits 15 = .ok (.aload_n 0, 1) := by decide +kernel
theorem dX12_waits_16 : decode cX12_waits 16 = .ok (.getfield 205, 3) := by decide +kernel
theorem dX12_waits_19 : decode cX12_waits 19 = .ok (.if_icmp .lt 15, 3) := by decide +kernel
theorem dX12_waits_22 : decode cX12_waits 22 = .ok (.aload_n 0, 1) := by decide +kernel
theorem dX12_waits_23 : decode cX12_waits 23 = .ok (.iconst 0, 1) := by decide +kernel
theorem dX12_waits_24 : decode cX12_waits 24 = .ok (.putfield 167, 3) := by decide +kernel
theorem dX12_waits_27 : decode cX12_waits 27 = .ok (.aload_n 0, 1) := by decide +kernel
theorem dX12_waits_28 : decode cX12_waits 28 = .ok (.iconst 2, 1) := by decide +kernel
theorem dX12_waits_29 : decode cX12_waits 29 = .ok (.invokevirtual 173, 3) := by decide +kernel
theorem dX12_waits_32 : decode cX12_waits 32 = .ok (.iconst 1, 1) := by decide +kernel
theorem dX12_waits_33 : decode cX12_waits 33 = .ok (.ireturn, 1) := by decide +kernel
theorem dX12_waits_34 : decode cX12_waits 34 = .ok (.aload_n 0, 1) := by decide +kernel
theorem dX12_waits_35 : decode cX12_waits 35 = .ok (.getfield 190, 3) := by decide +kernel
theorem dX12_waits_38 : decode cX12_waits 38 = .ok (.aload_n 0, 1) := by decide +kernel
theorem dX12_waits_39 : decode cX12_waits 39 = .ok (.getfield 190, 3) := by decide +kernel
theorem dX12_waits_42 : decode cX12_waits 42 = .ok (.aload_n 0, 1) := by decide +kernel
theorem dX12_waits_43 : decode cX12_waits 43 = .ok (.getfield 53, 3) := by decide +kernel
theorem dX12_waits_46 : decode cX12_waits 46 = .ok (.iload_n 1, 1) := by decide +kernel
theorem dX12_waits_47 : decode cX12_waits 47 = .ok (.iaload, 1) := by decide +kernel
theorem dX12_waits_48 : decode cX12_waits 48 = .ok (.irem, 1) := by decide +kernel
theorem dX12_waits_49 : decode cX12_waits 49 = .ok (.isub, 1) := by decide +kernel
theorem dX12_waits_50 : decode cX12_waits 50 = .ok (.istore_n 2, 1) := by decide +kernel
theorem dX12_waits_51 : decode cX12_waits 51 = .ok (.aload_n 0, 1) := by decide +kernel
theorem dX12_waits_52 : decode cX12_waits 52 = .ok (.iload_n 1, 1) := by decide +kernel
theorem dX12_waits_53 : decode cX12_waits 53 = .ok (.iload_n 2, 1) := by decide +kernel
theorem dX12_waits_54 : decode cX12_waits 54 = .ok (.invokevirtual 208, 3) := by decide +kernel
theorem dX12_waits_57 : decode cX12_waits 57 = .ok (.ifCond .ne 40, 3) := by decide +kernel
theorem dX12_waits_60 : decode cX12_waits 60 = .ok (.aload_n 0, 1) := by decide +kernel
theorem dX12_waits_61 : decode cX12_waits 61 = .ok (.iload_n 1, 1) := by decide +kernel
theorem dX12_waits_62 : decode cX12_waits 62 = .ok (.iload_n 2, 1) := by decide +kernel
theorem dX12_waits_63 : decode cX12_waits 63 = .ok (.invokevirtual 212, 3) := by decide +kernel
theorem dX12_waits_66 : decode cX12_waits 66 = .ok (.aload_n 0, 1) := by decide +kernel
theorem dX12_waits_67 : decode cX12_waits 67 = .ok (.getfield 29, 3) := by decide +kernel
theorem dX12_waits_70 : decode cX12_waits 70 = .ok (.aload_n 0, 1) := by decide +kernel
theorem dX12_waits_71 : decode cX12_waits 71 = .ok (.getfield 164, 3) := by decide +kernel
theorem dX12_waits_74 : decode cX12_waits 74 = .ok (.iaload, 1) := by decide +kernel
theorem dX12_waits_75 : decode cX12_waits 75 = .ok (.i2l, 1) := by decide +kernel
theorem dX12_waits_76 : decode cX12_waits 76 = .ok (.lcmp, 1) := by decide +kernel
theorem dX12_waits_77 : decode cX12_waits 77 = .ok (.ifCond .lt 20, 3) := by decide +kernel
theorem dX12_waits_80 : decode cX12_waits 80 = .ok (.aload_n 0, 1) := by decide +kernel
theorem dX12_waits_81 : decode cX12_waits 81 = .ok (.iconst 0, 1) := by decide +kernel
theorem dX12_waits_82 : decode cX12_waits 82 = .ok (.putfield 167, 3) := by decide +kernel
theorem dX12_waits_85 : decode cX12_waits 85 = .ok (.aload_n 0, 1) := by decide +kernel
theorem dX12_waits_86 : decode cX12_waits 86 = .ok (.dup, 1) := by decide +kernel
theorem dX12_waits_87 : decode cX12_waits 87 = .ok (.getfield 164, 3) := by decide +kernel
theorem dX12_waits_90 : decode cX12_waits 90 = .ok (.iconst 1, 1) := by decide +kernel
theorem dX12_waits_91 : decode cX12_waits 91 = .ok (.iadd, 1) := by decide +kernel
theorem dX12_waits_92 : decode cX12_waits 92 = .ok (.putfield 164, 3) := by decide +kernel
theorem dX12_waits_95 : decode cX12_waits 95 = .ok (.iconst 0, 1) := by decide +kernel
theorem dX12_waits_96 : decode cX12_waits 96 = .ok (.ireturn, 1) := by decide +kernel
theorem dX12_waits_97 : decode cX12_waits 97 = .ok (.aload_n 0, 1) := by decide +kernel
theorem dX12_waits_98 : decode cX12_waits 98 = .ok (.getfield 167, 3) := by decide +kernel
theorem dX12_waits_101 : decode cX12_waits 101 = .ok (.aload_n 0, 1) := by decide +kernel
theorem dX12_waits_102 : decode cX12_waits 102 = .ok (.getfield 32, 3) := by decide +kernel
theorem dX12_waits_105 : decode cX12_waits 105 = .ok (.aload_n 0, 1) := by decide +kernel
theorem dX12_waits_106 : decode cX12_waits 106 = .ok (.getfield 164, 3) := by decide +kernel
theorem dX12_waits_109 : decode cX12_waits 109 = .ok (.iaload, 1) := by decide +kernel
theorem dX12_waits_110 : decode cX12_waits 110 = .ok (.if_icmp .ne 15, 3) := by decide +kernel
theorem dX12_waits_113 : decode cX12_waits 113 = .ok (.aload_n 0, 1) := by decide +kernel
theorem dX12_waits_114 : decode cX12_waits 114 = .ok (.iconst 0, 1) := by decide +kernel
theorem dX12_waits_115 : decode cX12_waits 115 = .ok (.putfield 167, 3) := by decide +kernel
theorem dX12_waits_118 : decode cX12_waits 118 = .ok (.aload_n 0, 1) := by decide +kernel
theorem dX12_waits_119 : decode cX12_waits 119 = .ok (.iconst 2, 1) := by decide +kernel
theorem dX12_waits_120 : decode cX12_waits 120 = .ok (.invokevirtual 173, 3) := by decide +kernel
theorem dX12_waits_123 : decode cX12_waits 123 = .ok (.iconst 1, 1) := by decide +kernel
theorem dX12_waits_124 : decode cX12_waits 124 = .ok (.ireturn, 1) := by decide +kernel
theorem dX12_waits_125 : decode cX12_waits 125 = .ok (.aload_n 0, 1) := by decide +kernel
theorem dX12_waits_126 : decode cX12_waits 126 = .ok (.dup, 1) := by decide +kernel
theorem dX12_waits_127 : decode cX12_waits 127 = .ok (.getfield 167, 3) := by decide +kernel
theorem dX12_waits_130 : decode cX12_waits 130 = .ok (.iconst 1, 1) := by decide +kernel
theorem dX12_waits_131 : decode cX12_waits 131 = .ok (.iadd, 1) := by decide +kernel
theorem dX12_waits_132 : decode cX12_waits 132 = .ok (.putfield 167, 3) := by decide +kernel
theorem dX12_waits_135 : decode cX12_waits 135 = .ok (.iconst 1, 1) := by decide +kernel
theorem dX12_waits_136 : decode cX12_waits 136 = .ok (.ireturn, 1) := by decide +kernel
theorem dX12_turn_0 : decode cX12_turn 0 = .ok (.aload_n 0, 1) := by decide +kernel
theorem dX12_turn_1 : decode cX12_turn 1 = .ok (.getfield 118, 3) := by decide +kernel
theorem dX12_turn_4 : decode cX12_turn 4 = .ok (.iconst 1, 1) := by decide +kernel
theorem dX12_turn_5 : decode cX12_turn 5 = .ok (.if_icmp .ne 7, 3) := by decide +kernel
theorem dX12_turn_8 : decode cX12_turn 8 = .ok (.aload_n 0, 1) := by decide +kernel
theorem dX12_turn_9 : decode cX12_turn 9 = .ok (.invokevirtual 216, 3) := by decide +kernel
theorem dX12_turn_12 : decode cX12_turn 12 = .ok (.aload_n 0, 1) := by decide +kernel
theorem dX12_turn_13 : decode cX12_turn 13 = .ok (.getfield 118, 3) := by decide +kernel
theorem dX12_turn_16 : decode cX12_turn 16 = .ok (.iconst 2, 1) := by decide +kernel
theorem dX12_turn_17 : decode cX12_turn 17 = .ok (.if_icmp .ne 7, 3) := by decide +kernel
theorem dX12_turn_20 : decode cX12_turn 20 = .ok (.iconst 1, 1) := by decide +kernel
theorem dX12_turn_21 : decode cX12_turn 21 = .ok (.goto 4, 3) := by decide +kernel
theorem dX12_turn_24 : decode cX12_turn 24 = .ok (.iconst 0, 1) := by decide +kernel
theorem dX12_turn_25 : decode cX12_turn 25 = .ok (.istore_n 1, 1) := by decide +kernel
theorem dX12_turn_26 : decode cX12_turn 26 = .ok (.iload_n 1, 1) := by decide +kernel
theorem dX12_turn_27 : decode cX12_turn 27 = .ok (.ifCond .eq 15, 3) := by decide +kernel
theorem dX12_turn_30 : decode cX12_turn 30 = .ok (.aload_n 0, 1) := by decide +kernel
theorem dX12_turn_31 : decode cX12_turn 31 = .ok (.sipush 800, 3) := by decide +kernel
theorem dX12_turn_34 : decode cX12_turn 34 = .ok (.putfield 193, 3) := by decide +kernel
theorem dX12_turn_37 : decode cX12_turn 37 = .ok (.aload_n 0, 1) := by decide +kernel
theorem dX12_turn_38 : decode cX12_turn 38 = .ok (.iconst 0, 1) := by decide +kernel
theorem dX12_turn_39 : decode cX12_turn 39 = .ok (.putfield 199, 3) := by decide +kernel
theorem dX12_turn_42 : decode cX12_turn 42 = .ok (.bipush 7, 2) := by decide +kernel
theorem dX12_turn_44 : decode cX12_turn 44 = .ok (.aload_n 0, 1) := by decide +kernel
theorem dX12_turn_45 : decode cX12_turn 45 = .ok (.getfield 190, 3) := by decide +kernel
theorem dX12_turn_48 : decode cX12_turn 48 = .ok (.imul, 1) := by decide +kernel
theorem dX12_turn_49 : decode cX12_turn 49 = .ok (.istore_n 2, 1) := by decide +kernel
theorem dX12_turn_50 : decode cX12_turn 50 = .ok (.aload_n 0, 1) := by decide +kernel
theorem dX12_turn_51 : decode cX12_turn 51 = .ok (.dup, 1) := by decide +kernel
theorem dX12_turn_52 : decode cX12_turn 52 = .ok (.getfield 190, 3) := by decide +kernel
theorem dX12_turn_55 : decode cX12_turn 55 = .ok (.iconst 1, 1) := by decide +kernel
theorem dX12_turn_56 : decode cX12_turn 56 = .ok (.iadd, 1) := by decide +kernel
theorem dX12_turn_57 : decode cX12_turn 57 = .ok (.putfield 190, 3) := by decide +kernel
theorem dX12_turn_60 : decode cX12_turn 60 = .ok (.bipush 7, 2) := by decide +kernel
theorem dX12_turn_62 : decode cX12_turn 62 = .ok (.aload_n 0, 1) := by decide +kernel
theorem dX12_turn_63 : decode cX12_turn 63 = .ok (.getfield 190, 3) := by decide +kernel
theorem dX12_turn_66 : decode cX12_turn 66 = .ok (.imul, 1) := by decide +kernel
theorem dX12_turn_67 : decode cX12_turn 67 = .ok (.istore_n 3, 1) := by decide +kernel
theorem dX12_turn_68 : decode cX12_turn 68 = .ok (.aload_n 0, 1) := by decide +kernel
theorem dX12_turn_69 : decode cX12_turn 69 = .ok (.getfield 20, 3) := by decide +kernel
theorem dX12_turn_72 : decode cX12_turn 72 = .ok (.iload_n 2, 1) := by decide +kernel
theorem dX12_turn_73 : decode cX12_turn 73 = .ok (.iaload, 1) := by decide +kernel
theorem dX12_turn_74 : decode cX12_turn 74 = .ok (.istore 4, 2) := by decide +kernel
theorem dX12_turn_76 : decode cX12_turn 76 = .ok (.aload_n 0, 1) := by decide +kernel
theorem dX12_turn_77 : decode cX12_turn 77 = .ok (.getfield 193, 3) := by decide +kernel
theorem dX12_turn_80 : decode cX12_turn 80 = .ok (.iload 4, 2) := by decide +kernel
theorem dX12_turn_82 : decode cX12_turn 82 = .ok (.isub, 1) := by decide +kernel
theorem dX12_turn_83 : decode cX12_turn 83 = .ok (.aload_n 0, 1) := by decide +kernel
theorem dX12_turn_84 : decode cX12_turn 84 = .ok (.getfield 13, 3) := by decide +kernel
theorem dX12_turn_87 : decode cX12_turn 87 = .ok (.idiv, 1) := by decide +kernel
theorem dX12_turn_88 : decode cX12_turn 88 = .ok (.istore 5, 2) := by decide +kernel
theorem dX12_turn_90 : decode cX12_turn 90 = .ok (.iload 5, 2) := by decide +kernel
theorem dX12_turn_92 : decode cX12_turn 92 = .ok (.ifCond .ne 28, 3) := by decide +kernel
theorem dX12_turn_95 : decode cX12_turn 95 = .ok (.aload_n 0, 1) := by decide +kernel
theorem dX12_turn_96 : decode cX12_turn 96 = .ok (.getfield 193, 3) := by decide +kernel
theorem dX12_turn_99 : decode cX12_turn 99 = .ok (.iload 4, 2) := by decide +kernel
theorem dX12_turn_101 : decode cX12_turn 101 = .ok (.if_icmp .eq 19, 3) := by decide +kernel
theorem dX12_turn_104 : decode cX12_turn 104 = .ok (.aload_n 0, 1) := by decide +kernel
theorem dX12_turn_105 : decode cX12_turn 105 = .ok (.getfield 193, 3) := by decide +kernel
theorem dX12_turn_108 : decode cX12_turn 108 = .ok (.iload 4, 2) := by decide +kernel
theorem dX12_turn_110 : decode cX12_turn 110 = .ok (.if_icmp .le 7, 3) := by decide +kernel
theorem dX12_turn_113 : decode cX12_turn 113 = .ok (.iconst 1, 1) := by decide +kernel
theorem dX12_turn_114 : decode cX12_turn 114 = .ok (.goto 4, 3) := by decide +kernel
theorem dX12_turn_117 : decode cX12_turn 117 = .ok (.iconst (-1), 1) := by decide +kernel
theorem dX12_turn_118 : decode cX12_turn 118 = .ok (.istore 5, 2) := by decide +kernel
theorem dX12_turn_120 : decode cX12_turn 120 = .ok (.iload 4, 2) := by decide +kernel
theorem dX12_turn_122 : decode cX12_turn 122 = .ok (.iload 5, 2) := by decide +kernel
theorem dX12_turn_124 : decode cX12_turn 124 = .ok (.iadd, 1) := by decide +kernel
theorem dX12_turn_125 : decode cX12_turn 125 = .ok (.istore 4, 2) := by decide +kernel
theorem dX12_turn_127 : decode cX12_turn 127 = .ok (.aload_n 0, 1) := by decide +kernel
theorem dX12_turn_128 : decode cX12_turn 128 = .ok (.iload 4, 2) := by decide +kernel
theorem dX12_turn_130 : decode cX12_turn 130 = .ok (.aload_n 0, 1) := by decide +kernel
theorem dX12_turn_131 : decode cX12_turn 131 = .ok (.getfield 199, 3) := by decide +kernel
theorem dX12_turn_134 : decode cX12_turn 134 = .ok (.invokevirtual 129, 3) := by decide +kernel
theorem dX12_turn_137 : decode cX12_turn 137 = .ok (.istore 6, 2) := by decide +kernel
theorem dX12_turn_139 : decode cX12_turn 139 = .ok (.iload 4, 2) := by decide +kernel
theorem dX12_turn_141 : decode cX12_turn 141 = .ok (.iload 6, 2) := by decide +kernel
theorem dX12_turn_143 : decode cX12_turn 143 = .ok (.bipush 50, 2) := by decide +kernel
theorem dX12_turn_145 : decode cX12_turn 145 = .ok (.iadd, 1) := by decide +kernel
theorem dX12_turn_146 : decode cX12_turn 146 = .ok (.imul, 1) := by decide +kernel
theorem dX12_turn_147 : decode cX12_turn 147 = .ok (.sipush 1000, 3) := by decide +kernel
theorem dX12_turn_150 : decode cX12_turn 150 = .ok (.idiv, 1) := by decide +kernel
theorem dX12_turn_151 : decode cX12_turn 151 = .ok (.istore 7, 2) := by decide +kernel
theorem dX12_turn_153 : decode cX12_turn 153 = .ok (.iload 7, 2) := by decide +kernel
theorem dX12_turn_155 : decode cX12_turn 155 = .ok (.ifCond .ge 7, 3) := by decide +kernel
theorem dX12_turn_158 : decode cX12_turn 158 = .ok (.iconst 0, 1) := by decide +kernel
theorem dX12_turn_159 : decode cX12_turn 159 = .ok (.goto 5, 3) := by decide +kernel
theorem dX12_turn_162 : decode cX12_turn 162 = .ok (.iload 7, 2) := by decide +kernel
theorem dX12_turn_164 : decode cX12_turn 164 = .ok (.istore 7, 2) := by decide +kernel
theorem dX12_turn_166 : decode cX12_turn 166 = .ok (.aload_n 0, 1) := by decide +kernel
theorem dX12_turn_167 : decode cX12_turn 167 = .ok (.getfield 20, 3) := by decide +kernel
theorem dX12_turn_170 : decode cX12_turn 170 = .ok (.iload_n 2, 1) := by decide +kernel
theorem dX12_turn_171 : decode cX12_turn 171 = .ok (.iconst 3, 1) := by decide +kernel
theorem dX12_turn_172 : decode cX12_turn 172 = .ok (.iadd, 1) := by decide +kernel
theorem dX12_turn_173 : decode cX12_turn 173 = .ok (.iaload, 1) := by decide +kernel
theorem dX12_turn_174 : decode cX12_turn 174 = .ok (.istore 8, 2) := by decide +kernel
theorem dX12_turn_176 : decode cX12_turn 176 = .ok (.iload 8, 2) := by decide +kernel
theorem dX12_turn_178 : decode cX12_turn 178 = .ok (.iload 7, 2) := by decide +kernel
theorem dX12_turn_180 : decode cX12_turn 180 = .ok (.iconst 2, 1) := by decide +kernel
theorem dX12_turn_181 : decode cX12_turn 181 = .ok (.iload 8, 2) := by decide +kernel
theorem dX12_turn_183 : decode cX12_turn 183 = .ok (.bipush 20, 2) := by decide +kernel
theorem dX12_turn_185 : decode cX12_turn 185 = .ok (.isub, 1) := by decide +kernel
theorem dX12_turn_186 : decode cX12_turn 186 = .ok (.imul, 1) := by decide +kernel
theorem dX12_turn_187 : decode cX12_turn 187 = .ok (.isub, 1) := by decide +kernel
theorem dX12_turn_188 : decode cX12_turn 188 = .ok (.bipush 16, 2) := by decide +kernel
theorem dX12_turn_190 : decode cX12_turn 190 = .ok (.idiv, 1) := by decide +kernel
theorem dX12_turn_191 : decode cX12_turn 191 = .ok (.iadd, 1) := by decide +kernel
theorem dX12_turn_192 : decode cX12_turn 192 = .ok (.istore 8, 2) := by decide +kernel
theorem dX12_turn_194 : decode cX12_turn 194 = .ok (.iload 6, 2) := by decide +kernel
theorem dX12_turn_196 : decode cX12_turn 196 = .ok (.aload_n 0, 1) := by decide +kernel
theorem dX12_turn_197 : decode cX12_turn 197 = .ok (.getfield 20, 3) := by decide +kernel
theorem dX12_turn_200 : decode cX12_turn 200 = .ok (.iload_n 2, 1) := by decide +kernel
theorem dX12_turn_201 : decode cX12_turn 201 = .ok (.iconst 1, 1) := by decide +kernel
theorem dX12_turn_202 : decode cX12_turn 202 = .ok (.iadd, 1) := by decide +kernel
theorem dX12_turn_203 : decode cX12_turn 203 = .ok (.iaload, 1) := by decide +kernel
theorem dX12_turn_204 : decode cX12_turn 204 = .ok (.if_icmp .le 19, 3) := by decide +kernel
theorem dX12_turn_207 : decode cX12_turn 207 = .ok (.iconst 3, 1) := by decide +kernel
theorem dX12_turn_208 : decode cX12_turn 208 = .ok (.iload 6, 2) := by decide +kernel
theorem dX12_turn_210 : decode cX12_turn 210 = .ok (.aload_n 0, 1) := by decide +kernel
theorem dX12_turn_211 : decode cX12_turn 211 = .ok (.getfield 20, 3) := by decide +kernel
theorem dX12_turn_214 : decode cX12_turn 214 = .ok (.iload_n 2, 1) := by decide +kernel
theorem dX12_turn_215 : decode cX12_turn 215 = .ok (.iconst 1, 1) := by decide +kernel
theorem dX12_turn_216 : decode cX12_turn 216 = .ok (.iadd, 1) := by decide +kernel
theorem dX12_turn_217 : decode cX12_turn 217 = .ok (.iaload, 1) := by decide +kernel
theorem dX12_turn_218 : decode cX12_turn 218 = .ok (.isub, 1) := by decide +kernel
theorem dX12_turn_219 : decode cX12_turn 219 = .ok (.imul, 1) := by decide +kernel
theorem dX12_turn_220 : decode cX12_turn 220 = .ok (.goto 13, 3) := by decide +kernel
theorem dX12_turn_223 : decode cX12_turn 223 = .ok (.aload_n 0, 1) := by decide +kernel
theorem dX12_turn_224 : decode cX12_turn 224 = .ok (.getfield 20, 3) := by decide +kernel
theorem dX12_turn_227 : decode cX12_turn 227 = .ok (.iload_n 2, 1) := by decide +kernel
theorem dX12_turn_228 : decode cX12_turn 228 = .ok (.iconst 4, 1) := by decide +kernel
theorem dX12_turn_229 : decode cX12_turn 229 = .ok (.iadd, 1) := by decide +kernel
theorem dX12_turn_230 : decode cX12_turn 230 = .ok (.iaload, 1) := by decide +kernel
theorem dX12_turn_231 : decode cX12_turn 231 = .ok (.iconst 2, 1) := by decide +kernel
theorem dX12_turn_232 : decode cX12_turn 232 = .ok (.idiv, 1) := by decide +kernel
theorem dX12_turn_233 : decode cX12_turn 233 = .ok (.istore 9, 2) := by decide +kernel
theorem dX12_turn_235 : decode cX12_turn 235 = .ok (.aload_n 0, 1) := by decide +kernel
theorem dX12_turn_236 : decode cX12_turn 236 = .ok (.getfield 20, 3) := by decide +kernel
theorem dX12_turn_239 : decode cX12_turn 239 = .ok (.iload_n 3, 1) := by decide +kernel
theorem dX12_turn_240 : decode cX12_turn 240 = .ok (.iload 4, 2) := by decide +kernel
theorem dX12_turn_242 : decode cX12_turn 242 = .ok (.iastore, 1) := by decide +kernel
theorem dX12_turn_243 : decode cX12_turn 243 = .ok (.aload_n 0, 1) := by decide +kernel
theorem dX12_turn_244 : decode cX12_turn 244 = .ok (.getfield 20, 3) := by decide +kernel
theorem dX12_turn_247 : decode cX12_turn 247 = .ok (.iload_n 3, 1) := by decide +kernel
theorem dX12_turn_248 : decode cX12_turn 248 = .ok (.iconst 1, 1) := by decide +kernel
theorem dX12_turn_249 : decode cX12_turn 249 = .ok (.iadd, 1) := by decide +kernel
theorem dX12_turn_250 : decode cX12_turn 250 = .ok (.iload 6, 2) := by decide +kernel
theorem dX12_turn_252 : decode cX12_turn 252 = .ok (.iastore, 1) := by decide +kernel
theorem dX12_turn_253 : decode cX12_turn 253 = .ok (.aload_n 0, 1) := by decide +kernel
theorem dX12_turn_254 : decode cX12_turn 254 = .ok (.getfield 20, 3) := by decide +kernel
theorem dX12_turn_257 : decode cX12_turn 257 = .ok (.iload_n 3, 1) := by decide +kernel
theorem dX12_turn_258 : decode cX12_turn 258 = .ok (.iconst 2, 1) := by decide +kernel
theorem dX12_turn_259 : decode cX12_turn 259 = .ok (.iadd, 1) := by decide +kernel
theorem dX12_turn_260 : decode cX12_turn 260 = .ok (.iload 7, 2) := by decide +kernel
theorem dX12_turn_262 : decode cX12_turn 262 = .ok (.iastore, 1) := by decide +kernel
theorem dX12_turn_263 : decode cX12_turn 263 = .ok (.aload_n 0, 1) := by decide +kernel
theorem dX12_turn_264 : decode cX12_turn 264 = .ok (.getfield 20, 3) := by decide +kernel
theorem dX12_turn_267 : decode cX12_turn 267 = .ok (.iload_n 3, 1) := by decide +kernel
theorem dX12_turn_268 : decode cX12_turn 268 = .ok (.iconst 3, 1) := by decide +kernel
theorem dX12_turn_269 : decode cX12_turn 269 = .ok (.iadd, 1) := by decide +kernel
theorem dX12_turn_270 : decode cX12_turn 270 = .ok (.iload 8, 2) := by decide +kernel
theorem dX12_turn_272 : decode cX12_turn 272 = .ok (.iastore, 1) := by decide +kernel
theorem dX12_turn_273 : decode cX12_turn 273 = .ok (.aload_n 0, 1) := by decide +kernel
theorem dX12_turn_274 : decode cX12_turn 274 = .ok (.getfield 20, 3) := by decide +kernel
theorem dX12_turn_277 : decode cX12_turn 277 = .ok (.iload_n 3, 1) := by decide +kernel
theorem dX12_turn_278 : decode cX12_turn 278 = .ok (.iconst 4, 1) := by decide +kernel
theorem dX12_turn_279 : decode cX12_turn 279 = .ok (.iadd, 1) := by decide +kernel
theorem dX12_turn_280 : decode cX12_turn 280 = .ok (.iload 9, 2) := by decide +kernel
theorem dX12_turn_282 : decode cX12_turn 282 = .ok (.iastore, 1) := by decide +kernel
theorem dX12_turn_283 : decode cX12_turn 283 = .ok (.aload_n 0, 1) := by decide +kernel
theorem dX12_turn_284 : decode cX12_turn 284 = .ok (.getfield 20, 3) := by decide +kernel
theorem dX12_turn_287 : decode cX12_turn 287 = .ok (.iload_n 3, 1) := by decide +kernel
theorem dX12_turn_288 : decode cX12_turn 288 = .ok (.iconst 5, 1) := by decide +kernel
theorem dX12_turn_289 : decode cX12_turn 289 = .ok (.iadd, 1) := by decide +kernel
theorem dX12_turn_290 : decode cX12_turn 290 = .ok (.aload_n 0, 1) := by decide +kernel
theorem dX12_turn_291 : decode cX12_turn 291 = .ok (.getfield 193, 3) := by decide +kernel
theorem dX12_turn_294 : decode cX12_turn 294 = .ok (.iastore, 1) := by decide +kernel
theorem dX12_turn_295 : decode cX12_turn 295 = .ok (.aload_n 0, 1) := by decide +kernel
theorem dX12_turn_296 : decode cX12_turn 296 = .ok (.getfield 20, 3) := by decide +kernel
theorem dX12_turn_299 : decode cX12_turn 299 = .ok (.iload_n 3, 1) := by decide +kernel
theorem dX12_turn_300 : decode cX12_turn 300 = .ok (.bipush 6, 2) := by decide +kernel
theorem dX12_turn_302 : decode cX12_turn 302 = .ok (.iadd, 1) := by decide +kernel
theorem dX12_turn_303 : decode cX12_turn 303 = .ok (.aload_n 0, 1) := by decide +kernel
theorem dX12_turn_304 : decode cX12_turn 304 = .ok (.getfield 199, 3) := by decide +kernel
theorem dX12_turn_307 : decode cX12_turn 307 = .ok (.iastore, 1) := by decide +kernel
theorem dX12_turn_308 : decode cX12_turn 308 = .ok (.iload_n 1, 1) := by decide +kernel
theorem dX12_turn_309 : decode cX12_turn 309 = .ok (.ifCond .eq 32, 3) := by decide +kernel
theorem dX12_turn_312 : decode cX12_turn 312 = .ok (.aload_n 0, 1) := by decide +kernel
theorem dX12_turn_313 : decode cX12_turn 313 = .ok (.dup, 1) := by decide +kernel
theorem dX12_turn_314 : decode cX12_turn 314 = .ok (.getfield 170, 3) := by decide +kernel
theorem dX12_turn_317 : decode cX12_turn 317 = .ok (.iconst 1, 1) := by decide +kernel
theorem dX12_turn_318 : decode cX12_turn 318 = .ok (.iadd, 1) := by decide +kernel
theorem dX12_turn_319 : decode cX12_turn 319 = .ok (.putfield 170, 3) := by decide +kernel
theorem dX12_turn_322 : decode cX12_turn 322 = .ok (.aload_n 0, 1) := by decide +kernel
theorem dX12_turn_323 : decode cX12_turn 323 = .ok (.aload_n 0, 1) := by decide +kernel
theorem dX12_turn_324 : decode cX12_turn 324 = .ok (.getfield 170, 3) := by decide +kernel
theorem dX12_turn_327 : decode cX12_turn 327 = .ok (.bipush 10, 2) := by decide +kernel
theorem dX12_turn_329 : decode cX12_turn 329 = .ok (.if_icmp .ne 7, 3) := by decide +kernel
theorem dX12_turn_332 : decode cX12_turn 332 = .ok (.iconst 3, 1) := by decide +kernel
theorem dX12_turn_333 : decode cX12_turn 333 = .ok (.goto 4, 3) := by decide +kernel
theorem dX12_turn_336 : decode cX12_turn 336 = .ok (.iconst 2, 1) := by decide +kernel
theorem dX12_turn_337 : decode cX12_turn 337 = .ok (.putfield 118, 3) := by decide +kernel
theorem dX12_turn_340 : decode cX12_turn 340 = .ok (.return_, 1) := by decide +kernel
theorem dX12_turn_341 : decode cX12_turn 341 = .ok (.iconst 0, 1) := by decide +kernel
theorem dX12_turn_342 : decode cX12_turn 342 = .ok (.istore 10, 2) := by decide +kernel
theorem dX12_turn_344 : decode cX12_turn 344 = .ok (.iload 10, 2) := by decide +kernel
theorem dX12_turn_346 : decode cX12_turn 346 = .ok (.aload_n 0, 1) := by decide +kernel
theorem dX12_turn_347 : decode cX12_turn 347 = .ok (.getfield 205, 3) := by decide +kernel
theorem dX12_turn_350 : decode cX12_turn 350 = .ok (.if_icmp .ge 75, 3) := by decide +kernel
theorem dX12_turn_353 : decode cX12_turn 353 = .ok (.aload_n 0, 1) := by decide +kernel
theorem dX12_turn_354 : decode cX12_turn 354 = .ok (.getfield 65, 3) := by decide +kernel
theorem dX12_turn_357 : decode cX12_turn 357 = .ok (.iload 10, 2) := by decide +kernel
theorem dX12_turn_359 : decode cX12_turn 359 = .ok (.baload, 1) := by decide +kernel
theorem dX12_turn_360 : decode cX12_turn 360 = .ok (.ifCond .eq 59, 3) := by decide +kernel
theorem dX12_turn_363 : decode cX12_turn 363 = .ok (.aload_n 0, 1) := by decide +kernel
theorem dX12_turn_364 : decode cX12_turn 364 = .ok (.getfield 190, 3) := by decide +kernel
theorem dX12_turn_367 : decode cX12_turn 367 = .ok (.aload_n 0, 1) := by decide +kernel
theorem dX12_turn_368 : decode cX12_turn 368 = .ok (.getfield 53, 3) := by decide +kernel
theorem dX12_turn_371 : decode cX12_turn 371 = .ok (.iload 10, 2) := by decide +kernel
theorem dX12_turn_373 : decode cX12_turn 373 = .ok (.iaload, 1) := by decide +kernel
theorem dX12_turn_374 : decode cX12_turn 374 = .ok (.irem, 1) := by decide +kernel
theorem dX12_turn_375 : decode cX12_turn 375 = .ok (.ifCond .ne 44, 3) := by decide +kernel
theorem dX12_turn_378 : decode cX12_turn 378 = .ok (.aload_n 0, 1) := by decide +kernel
theorem dX12_turn_379 : decode cX12_turn 379 = .ok (.iload 10, 2) := by decide +kernel
theorem dX12_turn_381 : decode cX12_turn 381 = .ok (.aload_n 0, 1) := by decide +kernel
theorem dX12_turn_382 : decode cX12_turn 382 = .ok (.getfield 190, 3) := by decide +kernel
theorem dX12_turn_385 : decode cX12_turn 385 = .ok (.invokevirtual 208, 3) := by decide +kernel
theorem dX12_turn_388 : decode cX12_turn 388 = .ok (.ifCond .ne 31, 3) := by decide +kernel
theorem dX12_turn_391 : decode cX12_turn 391 = .ok (.aload_n 0, 1) := by decide +kernel
theorem dX12_turn_392 : decode cX12_turn 392 = .ok (.iload 10, 2) := by decide +kernel
theorem dX12_turn_394 : decode cX12_turn 394 = .ok (.aload_n 0, 1) := by decide +kernel
theorem dX12_turn_395 : decode cX12_turn 395 = .ok (.getfield 190, 3) := by decide +kernel
theorem dX12_turn_398 : decode cX12_turn 398 = .ok (.invokevirtual 212, 3) := by decide +kernel
theorem dX12_turn_401 : decode cX12_turn 401 = .ok (.aload_n 0, 1) := by decide +kernel
theorem dX12_turn_402 : decode cX12_turn 402 = .ok (.getfield 69, 3) := by decide +kernel
theorem dX12_turn_405 : decode cX12_turn 405 = .ok (.iload 10, 2) := by decide +kernel
theorem dX12_turn_407 : decode cX12_turn 407 = .ok (.iaload, 1) := by decide +kernel
theorem dX12_turn_408 : decode cX12_turn 408 = .ok (.i2l, 1) := by decide +kernel
theorem dX12_turn_409 : decode cX12_turn 409 = .ok (.lcmp, 1) := by decide +kernel
theorem dX12_turn_410 : decode cX12_turn 410 = .ok (.ifCond .le 9, 3) := by decide +kernel
theorem dX12_turn_413 : decode cX12_turn 413 = .ok (.aload_n 0, 1) := by decide +kernel
theorem dX12_turn_414 : decode cX12_turn 414 = .ok (.iconst 1, 1) := by decide +kernel
theorem dX12_turn_415 : decode cX12_turn 415 = .ok (.invokevirtual 173, 3) := by decide +kernel
theorem dX12_turn_418 : decode cX12_turn 418 = .ok (.return_, 1) := by decide +kernel
theorem dX12_turn_419 : decode cX12_turn 419 = .ok (.iinc 10 1, 3) := by decide +kernel
theorem dX12_turn_422 : decode cX12_turn 422 = .ok (.goto (-78), 3) := by decide +kernel
theorem dX12_turn_425 : decode cX12_turn 425 = .ok (.return_, 1) := by decide +kernel
theorem dX12_tick_0 : decode cX12_tick 0 = .ok (.iload_n 1, 1) := by decide +kernel
theorem dX12_tick_1 : decode cX12_tick 1 = .ok (.i2l, 1) := by decide +kernel
theorem dX12_tick_2 : decode cX12_tick 2 = .ok (.lconst 0, 1) := by decide +kernel
theorem dX12_tick_3 : decode cX12_tick 3 = .ok (.ldc2_w 116, 3) := by decide +kernel
theorem dX12_tick_6 : decode cX12_tick 6 = .ok (.invokestatic 110, 3) := by decide +kernel
theorem dX12_tick_9 : decode cX12_tick 9 = .ok (.ifCond .ne 6, 3) := by decide +kernel
theorem dX12_tick_12 : decode cX12_tick 12 = .ok (.bipush (-2), 2) := by decide +kernel
theorem dX12_tick_14 : decode cX12_tick 14 = .ok (.ireturn, 1) := by decide +kernel
theorem dX12_tick_15 : decode cX12_tick 15 = .ok (.aload_n 0, 1) := by decide +kernel
theorem dX12_tick_16 : decode cX12_tick 16 = .ok (.getfield 118, 3) := by decide +kernel
theorem dX12_tick_19 : decode cX12_tick 19 = .ok (.ifCond .ne 6, 3) := by decide +kernel
theorem dX12_tick_22 : decode cX12_tick 22 = .ok (.bipush (-3), 2) := by decide +kernel
theorem dX12_tick_24 : decode cX12_tick 24 = .ok (.ireturn, 1) := by decide +kernel
theorem dX12_tick_25 : decode cX12_tick 25 = .ok (.iconst 0, 1) := by decide +kernel
theorem dX12_tick_26 : decode cX12_tick 26 = .ok (.istore_n 2, 1) := by decide +kernel
theorem dX12_tick_27 : decode cX12_tick 27 = .ok (.iload_n 2, 1) := by decide +kernel
theorem dX12_tick_28 : decode cX12_tick 28 = .ok (.iload_n 1, 1) := by decide +kernel
theorem dX12_tick_29 : decode cX12_tick 29 = .ok (.if_icmp .ge 39, 3) := by decide +kernel
theorem dX12_tick_32 : decode cX12_tick 32 = .ok (.aload_n 0, 1) := by decide +kernel
theorem dX12_tick_33 : decode cX12_tick 33 = .ok (.getfield 190, 3) := by decide +kernel
theorem dX12_tick_36 : decode cX12_tick 36 = .ok (.sipush 3000, 3) := by decide +kernel
theorem dX12_tick_39 : decode cX12_tick 39 = .ok (.if_icmp .ge 29, 3) := by decide +kernel
theorem dX12_tick_42 : decode cX12_tick 42 = .ok (.aload_n 0, 1) := by decide +kernel
theorem dX12_tick_43 : decode cX12_tick 43 = .ok (.getfield 118, 3) := by decide +kernel
theorem dX12_tick_46 : decode cX12_tick 46 = .ok (.iconst 1, 1) := by decide +kernel
theorem dX12_tick_47 : decode cX12_tick 47 = .ok (.if_icmp .eq 11, 3) := by decide +kernel
theorem dX12_tick_50 : decode cX12_tick 50 = .ok (.aload_n 0, 1) := by decide +kernel
theorem dX12_tick_51 : decode cX12_tick 51 = .ok (.getfield 118, 3) := by decide +kernel
theorem dX12_tick_54 : decode cX12_tick 54 = .ok (.iconst 2, 1) := by decide +kernel
theorem dX12_tick_55 : decode cX12_tick 55 = .ok (.if_icmp .ne 13, 3) := by decide +kernel
theorem dX12_tick_58 : decode cX12_tick 58 = .ok (.aload_n 0, 1) := by decide +kernel
theorem dX12_tick_59 : decode cX12_tick 59 = .ok (.invokevirtual 219, 3) := by decide +kernel
theorem dX12_tick_62 : decode cX12_tick 62 = .ok (.iinc 2 1, 3) := by decide +kernel
theorem dX12_tick_65 : decode cX12_tick 65 = .ok (.goto (-38), 3) := by decide +kernel
theorem dX12_tick_68 : decode cX12_tick 68 = .ok (.iload_n 2, 1) := by decide +kernel
theorem dX12_tick_69 : decode cX12_tick 69 = .ok (.ireturn, 1) := by decide +kernel
theorem dX12_stop_0 : decode cX12_stop 0 = .ok (.aload_n 0, 1) := by decide +kernel
theorem dX12_stop_1 : decode cX12_stop 1 = .ok (.getfield 118, 3) := by decide +kernel
theorem dX12_stop_4 : decode cX12_stop 4 = .ok (.iconst 1, 1) := by decide +kernel
theorem dX12_stop_5 : decode cX12_stop 5 = .ok (.if_icmp .eq 6, 3) := by decide +kernel
theorem dX12_stop_8 : decode cX12_stop 8 = .ok (.bipush (-3), 2) := by decide +kernel
theorem dX12_stop_10 : decode cX12_stop 10 = .ok (.ireturn, 1) := by decide +kernel
theorem dX12_stop_11 : decode cX12_stop 11 = .ok (.aload_n 0, 1) := by decide +kernel
theorem dX12_stop_12 : decode cX12_stop 12 = .ok (.iconst 4, 1) := by decide +kernel
theorem dX12_stop_13 : decode cX12_stop 13 = .ok (.invokevirtual 173, 3) := by decide +kernel
theorem dX12_stop_16 : decode cX12_stop 16 = .ok (.iconst 1, 1) := by decide +kernel
theorem dX12_stop_17 : decode cX12_stop 17 = .ok (.ireturn, 1) := by decide +kernel
theorem dX12_reset_0 : decode cX12_reset 0 = .ok (.aload_n 0, 1) := by decide +kernel
theorem dX12_reset_1 : decode cX12_reset 1 = .ok (.getfield 118, 3) := by decide +kernel
theorem dX12_reset_4 : decode cX12_reset 4 = .ok (.iconst 1, 1) := by decide +kernel
theorem dX12_reset_5 : decode cX12_reset 5 = .ok (.if_icmp .eq 11, 3) := by decide +kernel
theorem dX12_reset_8 : decode cX12_reset 8 = .ok (.aload_n 0, 1) := by decide +kernel
theorem dX12_reset_9 : decode cX12_reset 9 = .ok (.getfield 118, 3) := by decide +kernel
theorem dX12_reset_12 : decode cX12_reset 12 = .ok (.iconst 2, 1) := by decide +kernel
theorem dX12_reset_13 : decode cX12_reset 13 = .ok (.if_icmp .ne 6, 3) := by decide +kernel
theorem dX12_reset_16 : decode cX12_reset 16 = .ok (.bipush (-3), 2) := by decide +kernel
theorem dX12_reset_18 : decode cX12_reset 18 = .ok (.ireturn, 1) := by decide +kernel
theorem dX12_reset_19 : decode cX12_reset 19 = .ok (.aload_n 0, 1) := by decide +kernel
theorem dX12_reset_20 : decode cX12_reset 20 = .ok (.getfield 190, 3) := by decide +kernel
theorem dX12_reset_23 : decode cX12_reset 23 = .ok (.istore_n 1, 1) := by decide +kernel
theorem dX12_reset_24 : decode cX12_reset 24 = .ok (.aload_n 0, 1) := by decide +kernel
theorem dX12_reset_25 : decode cX12_reset 25 = .ok (.iconst 0, 1) := by decide +kernel
theorem dX12_reset_26 : decode cX12_reset 26 = .ok (.putfield 118, 3) := by decide +kernel
theorem dX12_reset_29 : decode cX12_reset 29 = .ok (.aload_n 0, 1) := by decide +kernel
theorem dX12_reset_30 : decode cX12_reset 30 = .ok (.iconst 0, 1) := by decide +kernel
theorem dX12_reset_31 : decode cX12_reset 31 = .ok (.putfield 190, 3) := by decide +kernel
theorem dX12_reset_34 : decode cX12_reset 34 = .ok (.aload_n 0, 1) := by decide +kernel
theorem dX12_reset_35 : decode cX12_reset 35 = .ok (.iconst 0, 1) := by decide +kernel
theorem dX12_reset_36 : decode cX12_reset 36 = .ok (.putfield 164, 3) := by decide +kernel
theorem dX12_reset_39 : decode cX12_reset 39 = .ok (.aload_n 0, 1) := by decide +kernel
theorem dX12_reset_40 : decode cX12_reset 40 = .ok (.iconst 0, 1) := by decide +kernel
theorem dX12_reset_41 : decode cX12_reset 41 = .ok (.putfield 167, 3) := by decide +kernel
theorem dX12_reset_44 : decode cX12_reset 44 = .ok (.aload_n 0, 1) := by decide +kernel
theorem dX12_reset_45 : decode cX12_reset 45 = .ok (.bipush (-9), 2) := by decide +kernel
theorem dX12_reset_47 : decode cX12_reset 47 = .ok (.putfield 17, 3) := by decide +kernel
theorem dX12_reset_50 : decode cX12_reset 50 = .ok (.aload_n 0, 1) := by decide +kernel
theorem dX12_reset_51 : decode cX12_reset 51 = .ok (.iconst 0, 1) := by decide +kernel
theorem dX12_reset_52 : decode cX12_reset 52 = .ok (.putfield 170, 3) := by decide +kernel
theorem dX12_reset_55 : decode cX12_reset 55 = .ok (.aload_n 0, 1) := by decide +kernel
theorem dX12_reset_56 : decode cX12_reset 56 = .ok (.iconst 0, 1) := by decide +kernel
theorem dX12_reset_57 : decode cX12_reset 57 = .ok (.putfield 187, 3) := by decide +kernel
theorem dX12_reset_60 : decode cX12_reset 60 = .ok (.aload_n 0, 1) := by decide +kernel
theorem dX12_reset_61 : decode cX12_reset 61 = .ok (.iconst 0, 1) := by decide +kernel
theorem dX12_reset_62 : decode cX12_reset 62 = .ok (.putfield 193, 3) := by decide +kernel
theorem dX12_reset_65 : decode cX12_reset 65 = .ok (.aload_n 0, 1) := by decide +kernel
theorem dX12_reset_66 : decode cX12_reset 66 = .ok (.iconst 0, 1) := by decide +kernel
theorem dX12_reset_67 : decode cX12_reset 67 = .ok (.putfield 199, 3) := by decide +kernel
theorem dX12_reset_70 : decode cX12_reset 70 = .ok (.iload_n 1, 1) := by decide +kernel
theorem dX12_reset_71 : decode cX12_reset 71 = .ok (.ireturn, 1) := by decide +kernel
theorem dX12_told_0 : decode cX12_told 0 = .ok (.iload_n 1, 1) := by decide +kernel
theorem dX12_told_1 : decode cX12_told 1 = .ok (.tableswitch 105 0 9 #[55, 60, 65, 70, 75, 80, 85, 90, 95, 100], 55) := by decide +kernel
theorem dX12_told_56 : decode cX12_told 56 = .ok (.aload_n 0, 1) := by decide +kernel
theorem dX12_told_57 : decode cX12_told 57 = .ok (.getfield 118, 3) := by decide +kernel
theorem dX12_told_60 : decode cX12_told 60 = .ok (.ireturn, 1) := by decide +kernel
theorem dX12_told_61 : decode cX12_told 61 = .ok (.aload_n 0, 1) := by decide +kernel
theorem dX12_told_62 : decode cX12_told 62 = .ok (.getfield 190, 3) := by decide +kernel
theorem dX12_told_65 : decode cX12_told 65 = .ok (.ireturn, 1) := by decide +kernel
theorem dX12_told_66 : decode cX12_told 66 = .ok (.aload_n 0, 1) := by decide +kernel
theorem dX12_told_67 : decode cX12_told 67 = .ok (.getfield 164, 3) := by decide +kernel
theorem dX12_told_70 : decode cX12_told 70 = .ok (.ireturn, 1) := by decide +kernel
theorem dX12_told_71 : decode cX12_told 71 = .ok (.aload_n 0, 1) := by decide +kernel
theorem dX12_told_72 : decode cX12_told 72 = .ok (.getfield 17, 3) := by decide +kernel
theorem dX12_told_75 : decode cX12_told 75 = .ok (.ireturn, 1) := by decide +kernel
theorem dX12_told_76 : decode cX12_told 76 = .ok (.aload_n 0, 1) := by decide +kernel
theorem dX12_told_77 : decode cX12_told 77 = .ok (.getfield 170, 3) := by decide +kernel
theorem dX12_told_80 : decode cX12_told 80 = .ok (.ireturn, 1) := by decide +kernel
theorem dX12_told_81 : decode cX12_told 81 = .ok (.aload_n 0, 1) := by decide +kernel
theorem dX12_told_82 : decode cX12_told 82 = .ok (.getfield 187, 3) := by decide +kernel
theorem dX12_told_85 : decode cX12_told 85 = .ok (.ireturn, 1) := by decide +kernel
theorem dX12_told_86 : decode cX12_told 86 = .ok (.aload_n 0, 1) := by decide +kernel
theorem dX12_told_87 : decode cX12_told 87 = .ok (.getfield 139, 3) := by decide +kernel
theorem dX12_told_90 : decode cX12_told 90 = .ok (.ireturn, 1) := by decide +kernel
theorem dX12_told_91 : decode cX12_told 91 = .ok (.aload_n 0, 1) := by decide +kernel
theorem dX12_told_92 : decode cX12_told 92 = .ok (.getfield 205, 3) := by decide +kernel
theorem dX12_told_95 : decode cX12_told 95 = .ok (.ireturn, 1) := by decide +kernel
theorem dX12_told_96 : decode cX12_told 96 = .ok (.aload_n 0, 1) := by decide +kernel
theorem dX12_told_97 : decode cX12_told 97 = .ok (.getfield 222, 3) := by decide +kernel
theorem dX12_told_100 : decode cX12_told 100 = .ok (.ireturn, 1) := by decide +kernel
theorem dX12_told_101 : decode cX12_told 101 = .ok (.aload_n 0, 1) := by decide +kernel
theorem dX12_told_102 : decode cX12_told 102 = .ok (.getfield 13, 3) := by decide +kernel
theorem dX12_told_105 : decode cX12_told 105 = .ok (.ireturn, 1) := by decide +kernel
theorem dX12_told_106 : decode cX12_told 106 = .ok (.bipush (-2), 2) := by decide +kernel
theorem dX12_told_108 : decode cX12_told 108 = .ok (.ireturn, 1) := by decide +kernel
theorem dX12_was_0 : decode cX12_was 0 = .ok (.iload_n 1, 1) := by decide +kernel
theorem dX12_was_1 : decode cX12_was 1 = .ok (.i2l, 1) := by decide +kernel
theorem dX12_was_2 : decode cX12_was 2 = .ok (.lconst 0, 1) := by decide +kernel
theorem dX12_was_3 : decode cX12_was 3 = .ok (.aload_n 0, 1) := by decide +kernel
theorem dX12_was_4 : decode cX12_was 4 = .ok (.getfield 190, 3) := by decide +kernel
theorem dX12_was_7 : decode cX12_was 7 = .ok (.i2l, 1) := by decide +kernel
theorem dX12_was_8 : decode cX12_was 8 = .ok (.invokestatic 110, 3) := by decide +kernel
theorem dX12_was_11 : decode cX12_was 11 = .ok (.ifCond .ne 5, 3) := by decide +kernel
theorem dX12_was_14 : decode cX12_was 14 = .ok (.iconst (-1), 1) := by decide +kernel
theorem dX12_was_15 : decode cX12_was 15 = .ok (.ireturn, 1) := by decide +kernel
theorem dX12_was_16 : decode cX12_was 16 = .ok (.iload_n 2, 1) := by decide +kernel
theorem dX12_was_17 : decode cX12_was 17 = .ok (.i2l, 1) := by decide +kernel
theorem dX12_was_18 : decode cX12_was 18 = .ok (.lconst 0, 1) := by decide +kernel
theorem dX12_was_19 : decode cX12_was 19 = .ok (.ldc2_w 225, 3) := by decide +kernel
theorem dX12_was_22 : decode cX12_was 22 = .ok (.invokestatic 110, 3) := by decide +kernel
theorem dX12_was_25 : decode cX12_was 25 = .ok (.ifCond .eq 17, 3) := by decide +kernel
theorem dX12_was_28 : decode cX12_was 28 = .ok (.aload_n 0, 1) := by decide +kernel
theorem dX12_was_29 : decode cX12_was 29 = .ok (.getfield 20, 3) := by decide +kernel
theorem dX12_was_32 : decode cX12_was 32 = .ok (.bipush 7, 2) := by decide +kernel
theorem dX12_was_34 : decode cX12_was 34 = .ok (.iload_n 1, 1) := by decide +kernel
theorem dX12_was_35 : decode cX12_was 35 = .ok (.imul, 1) := by decide +kernel
theorem dX12_was_36 : decode cX12_was 36 = .ok (.iload_n 2, 1) := by decide +kernel
theorem dX12_was_37 : decode cX12_was 37 = .ok (.iadd, 1) := by decide +kernel
theorem dX12_was_38 : decode cX12_was 38 = .ok (.iaload, 1) := by decide +kernel
theorem dX12_was_39 : decode cX12_was 39 = .ok (.goto 5, 3) := by decide +kernel
theorem dX12_was_42 : decode cX12_was 42 = .ok (.bipush (-2), 2) := by decide +kernel
theorem dX12_was_44 : decode cX12_was 44 = .ok (.ireturn, 1) := by decide +kernel
theorem dX12_mark_0 : decode cX12_mark 0 = .ok (.iload_n 1, 1) := by decide +kernel
theorem dX12_mark_1 : decode cX12_mark 1 = .ok (.ifCond .lt 20, 3) := by decide +kernel
theorem dX12_mark_4 : decode cX12_mark 4 = .ok (.iload_n 1, 1) := by decide +kernel
theorem dX12_mark_5 : decode cX12_mark 5 = .ok (.aload_n 0, 1) := by decide +kernel
theorem dX12_mark_6 : decode cX12_mark 6 = .ok (.getfield 187, 3) := by decide +kernel
theorem dX12_mark_9 : decode cX12_mark 9 = .ok (.if_icmp .ge 12, 3) := by decide +kernel
theorem dX12_mark_12 : decode cX12_mark 12 = .ok (.aload_n 0, 1) := by decide +kernel
theorem dX12_mark_13 : decode cX12_mark 13 = .ok (.getfield 47, 3) := by decide +kernel
theorem dX12_mark_16 : decode cX12_mark 16 = .ok (.iload_n 1, 1) := by decide +kernel
theorem dX12_mark_17 : decode cX12_mark 17 = .ok (.iaload, 1) := by decide +kernel
theorem dX12_mark_18 : decode cX12_mark 18 = .ok (.goto 4, 3) := by decide +kernel
theorem dX12_mark_21 : decode cX12_mark 21 = .ok (.iconst (-1), 1) := by decide +kernel
theorem dX12_mark_22 : decode cX12_mark 22 = .ok (.ireturn, 1) := by decide +kernel
theorem dX12_isChannel_0 : decode cX12_isChannel 0 = .ok (.iload_n 1, 1) := by decide +kernel
theorem dX12_isChannel_1 : decode cX12_isChannel 1 = .ok (.ifCond .lt 15, 3) := by decide +kernel
theorem dX12_isChannel_4 : decode cX12_isChannel 4 = .ok (.iload_n 1, 1) := by decide +kernel
theorem dX12_isChannel_5 : decode cX12_isChannel 5 = .ok (.aload_n 0, 1) := by decide +kernel
theorem dX12_isChannel_6 : decode cX12_isChannel 6 = .ok (.getfield 205, 3) := by decide +kernel
theorem dX12_isChannel_9 : decode cX12_isChannel 9 = .ok (.if_icmp .ge 7, 3) := by decide +kernel
theorem dX12_isChannel_12 : decode cX12_isChannel 12 = .ok (.iconst 1, 1) := by decide +kernel
theorem dX12_isChannel_13 : decode cX12_isChannel 13 = .ok (.goto 4, 3) := by decide +kernel
theorem dX12_isChannel_16 : decode cX12_isChannel 16 = .ok (.iconst 0, 1) := by decide +kernel
theorem dX12_isChannel_17 : decode cX12_isChannel 17 = .ok (.ireturn, 1) := by decide +kernel
theorem dX12_channel_0 : decode cX12_channel 0 = .ok (.aload_n 0, 1) := by decide +kernel
theorem dX12_channel_1 : decode cX12_channel 1 = .ok (.getfield 118, 3) := by decide +kernel
theorem dX12_channel_4 : decode cX12_channel 4 = .ok (.ifCond .eq 6, 3) := by decide +kernel
theorem dX12_channel_7 : decode cX12_channel 7 = .ok (.bipush (-3), 2) := by decide +kernel
theorem dX12_channel_9 : decode cX12_channel 9 = .ok (.ireturn, 1) := by decide +kernel
theorem dX12_channel_10 : decode cX12_channel 10 = .ok (.iload_n 1, 1) := by decide +kernel
theorem dX12_channel_11 : decode cX12_channel 11 = .ok (.i2l, 1) := by decide +kernel
theorem dX12_channel_12 : decode cX12_channel 12 = .ok (.lconst 0, 1) := by decide +kernel
theorem dX12_channel_13 : decode cX12_channel 13 = .ok (.ldc2_w 158, 3) := by decide +kernel
theorem dX12_channel_16 : decode cX12_channel 16 = .ok (.invokestatic 110, 3) := by decide +kernel
theorem dX12_channel_19 : decode cX12_channel 19 = .ok (.ifCond .eq 64, 3) := by decide +kernel
theorem dX12_channel_22 : decode cX12_channel 22 = .ok (.iload_n 2, 1) := by decide +kernel
theorem dX12_channel_23 : decode cX12_channel 23 = .ok (.i2l, 1) := by decide +kernel
theorem dX12_channel_24 : decode cX12_channel 24 = .ok (.lconst 1, 1) := by decide +kernel
theorem dX12_channel_25 : decode cX12_channel 25 = .ok (.ldc2_w 133, 3) := by decide +kernel
theorem dX12_channel_28 : decode cX12_channel 28 = .ok (.invokestatic 110, 3) := by decide +kernel
theorem dX12_channel_31 : decode cX12_channel 31 = .ok (.ifCond .eq 52, 3) := by decide +kernel
theorem dX12_channel_34 : decode cX12_channel 34 = .ok (.iload_n 3, 1) := by decide +kernel
theorem dX12_channel_35 : decode cX12_channel 35 = .ok (.i2l, 1) := by decide +kernel
theorem dX12_channel_36 : decode cX12_channel 36 = .ok (.lconst 0, 1) := by decide +kernel
theorem dX12_channel_37 : decode cX12_channel 37 = .ok (.ldc2_w 133, 3) := by decide +kernel
theorem dX12_channel_40 : decode cX12_channel 40 = .ok (.invokestatic 110, 3) := by decide +kernel
theorem dX12_channel_43 : decode cX12_channel 43 = .ok (.ifCond .eq 40, 3) := by decide +kernel
theorem dX12_channel_46 : decode cX12_channel 46 = .ok (.iload 4, 2) := by decide +kernel
theorem dX12_channel_48 : decode cX12_channel 48 = .ok (.i2l, 1) := by decide +kernel
theorem dX12_channel_49 : decode cX12_channel 49 = .ok (.ldc2_w 227, 3) := by decide +kernel
theorem dX12_channel_52 : decode cX12_channel 52 = .ok (.ldc2_w 229, 3) := by decide +kernel
theorem dX12_channel_55 : decode cX12_channel 55 = .ok (.invokestatic 110, 3) := by decide +kernel
theorem dX12_channel_58 : decode cX12_channel 58 = .ok (.ifCond .eq 25, 3) := by decide +kernel
theorem dX12_channel_61 : decode cX12_channel 61 = .ok (.iload 5, 2) := by decide +kernel
theorem dX12_channel_63 : decode cX12_channel 63 = .ok (.i2l, 1) := by decide +kernel
theorem dX12_channel_64 : decode cX12_channel 64 = .ok (.ldc2_w 227, 3) := by decide +kernel
theorem dX12_channel_67 : decode cX12_channel 67 = .ok (.ldc2_w 229, 3) := by decide +kernel
theorem dX12_channel_70 : decode cX12_channel 70 = .ok (.invokestatic 110, 3) := by decide +kernel
theorem dX12_channel_73 : decode cX12_channel 73 = .ok (.ifCond .eq 10, 3) := by decide +kernel
theorem dX12_channel_76 : decode cX12_channel 76 = .ok (.iload 4, 2) := by decide +kernel
theorem dX12_channel_78 : decode cX12_channel 78 = .ok (.iload 5, 2) := by decide +kernel
theorem dX12_channel_80 : decode cX12_channel 80 = .ok (.if_icmp .le 6, 3) := by decide +kernel
theorem dX12_channel_83 : decode cX12_channel 83 = .ok (.bipush (-2), 2) := by decide +kernel
theorem dX12_channel_85 : decode cX12_channel 85 = .ok (.ireturn, 1) := by decide +kernel
theorem dX12_channel_86 : decode cX12_channel 86 = .ok (.aload_n 0, 1) := by decide +kernel
theorem dX12_channel_87 : decode cX12_channel 87 = .ok (.getfield 205, 3) := by decide +kernel
theorem dX12_channel_90 : decode cX12_channel 90 = .ok (.bipush 8, 2) := by decide +kernel
theorem dX12_channel_92 : decode cX12_channel 92 = .ok (.if_icmp .ne 6, 3) := by decide +kernel
theorem dX12_channel_95 : decode cX12_channel 95 = .ok (.bipush (-4), 2) := by decide +kernel
theorem dX12_channel_97 : decode cX12_channel 97 = .ok (.ireturn, 1) := by decide +kernel
theorem dX12_channel_98 : decode cX12_channel 98 = .ok (.aload_n 0, 1) := by decide +kernel
theorem dX12_channel_99 : decode cX12_channel 99 = .ok (.getfield 50, 3) := by decide +kernel
theorem dX12_channel_102 : decode cX12_channel 102 = .ok (.aload_n 0, 1) := by decide +kernel
theorem dX12_channel_103 : decode cX12_channel 103 = .ok (.getfield 205, 3) := by decide +kernel
theorem dX12_channel_106 : decode cX12_channel 106 = .ok (.iload_n 1, 1) := by decide +kernel
theorem dX12_channel_107 : decode cX12_channel 107 = .ok (.iastore, 1) := by decide +kernel
theorem dX12_channel_108 : decode cX12_channel 108 = .ok (.aload_n 0, 1) := by decide +kernel
theorem dX12_channel_109 : decode cX12_channel 109 = .ok (.getfield 53, 3) := by decide +kernel
theorem dX12_channel_112 : decode cX12_channel 112 = .ok (.aload_n 0, 1) := by decide +kernel
theorem dX12_channel_113 : decode cX12_channel 113 = .ok (.getfield 205, 3) := by decide +kernel
theorem dX12_channel_116 : decode cX12_channel 116 = .ok (.iload_n 2, 1) := by decide +kernel
theorem dX12_channel_117 : decode cX12_channel 117 = .ok (.iastore, 1) := by decide +kernel
theorem dX12_channel_118 : decode cX12_channel 118 = .ok (.aload_n 0, 1) := by decide +kernel
theorem dX12_channel_119 : decode cX12_channel 119 = .ok (.getfield 56, 3) := by decide +kernel
theorem dX12_channel_122 : decode cX12_channel 122 = .ok (.aload_n 0, 1) := by decide +kernel
theorem dX12_channel_123 : decode cX12_channel 123 = .ok (.getfield 205, 3) := by decide +kernel
theorem dX12_channel_126 : decode cX12_channel 126 = .ok (.iload_n 3, 1) := by decide +kernel
theorem dX12_channel_127 : decode cX12_channel 127 = .ok (.iastore, 1) := by decide +kernel
theorem dX12_channel_128 : decode cX12_channel 128 = .ok (.aload_n 0, 1) := by decide +kernel
theorem dX12_channel_129 : decode cX12_channel 129 = .ok (.getfield 59, 3) := by decide +kernel
theorem dX12_channel_132 : decode cX12_channel 132 = .ok (.aload_n 0, 1) := by decide +kernel
theorem dX12_channel_133 : decode cX12_channel 133 = .ok (.getfield 205, 3) := by decide +kernel
theorem dX12_channel_136 : decode cX12_channel 136 = .ok (.iload 4, 2) := by decide +kernel
theorem dX12_channel_138 : decode cX12_channel 138 = .ok (.iastore, 1) := by decide +kernel
theorem dX12_channel_139 : decode cX12_channel 139 = .ok (.aload_n 0, 1) := by decide +kernel
theorem dX12_channel_140 : decode cX12_channel 140 = .ok (.getfield 62, 3) := by decide +kernel
theorem dX12_channel_143 : decode cX12_channel 143 = .ok (.aload_n 0, 1) := by decide +kernel
theorem dX12_channel_144 : decode cX12_channel 144 = .ok (.getfield 205, 3) := by decide +kernel
theorem dX12_channel_147 : decode cX12_channel 147 = .ok (.iload 5, 2) := by decide +kernel
theorem dX12_channel_149 : decode cX12_channel 149 = .ok (.iastore, 1) := by decide +kernel
theorem dX12_channel_150 : decode cX12_channel 150 = .ok (.aload_n 0, 1) := by decide +kernel
theorem dX12_channel_151 : decode cX12_channel 151 = .ok (.getfield 65, 3) := by decide +kernel
theorem dX12_channel_154 : decode cX12_channel 154 = .ok (.aload_n 0, 1) := by decide +kernel
theorem dX12_channel_155 : decode cX12_channel 155 = .ok (.getfield 205, 3) := by decide +kernel
theorem dX12_channel_158 : decode cX12_channel 158 = .ok (.iconst 0, 1) := by decide +kernel
theorem dX12_channel_159 : decode cX12_channel 159 = .ok (.bastore, 1) := by decide +kernel
theorem dX12_channel_160 : decode cX12_channel 160 = .ok (.aload_n 0, 1) := by decide +kernel
theorem dX12_channel_161 : decode cX12_channel 161 = .ok (.dup, 1) := by decide +kernel
theorem dX12_channel_162 : decode cX12_channel 162 = .ok (.getfield 205, 3) := by decide +kernel
theorem dX12_channel_165 : decode cX12_channel 165 = .ok (.iconst 1, 1) := by decide +kernel
theorem dX12_channel_166 : decode cX12_channel 166 = .ok (.iadd, 1) := by decide +kernel
theorem dX12_channel_167 : decode cX12_channel 167 = .ok (.putfield 205, 3) := by decide +kernel
theorem dX12_channel_170 : decode cX12_channel 170 = .ok (.aload_n 0, 1) := by decide +kernel
theorem dX12_channel_171 : decode cX12_channel 171 = .ok (.getfield 205, 3) := by decide +kernel
theorem dX12_channel_174 : decode cX12_channel 174 = .ok (.iconst 1, 1) := by decide +kernel
theorem dX12_channel_175 : decode cX12_channel 175 = .ok (.isub, 1) := by decide +kernel
theorem dX12_channel_176 : decode cX12_channel 176 = .ok (.ireturn, 1) := by decide +kernel
theorem dX12_limit_0 : decode cX12_limit 0 = .ok (.aload_n 0, 1) := by decide +kernel
theorem dX12_limit_1 : decode cX12_limit 1 = .ok (.iload_n 1, 1) := by decide +kernel
theorem dX12_limit_2 : decode cX12_limit 2 = .ok (.invokevirtual 231, 3) := by decide +kernel
theorem dX12_limit_5 : decode cX12_limit 5 = .ok (.ifCond .ne 5, 3) := by decide +kernel
theorem dX12_limit_8 : decode cX12_limit 8 = .ok (.iconst (-1), 1) := by decide +kernel
theorem dX12_limit_9 : decode cX12_limit 9 = .ok (.ireturn, 1) := by decide +kernel
theorem dX12_limit_10 : decode cX12_limit 10 = .ok (.iload_n 2, 1) := by decide +kernel
theorem dX12_limit_11 : decode cX12_limit 11 = .ok (.i2l, 1) := by decide +kernel
theorem dX12_limit_12 : decode cX12_limit 12 = .ok (.ldc2_w 234, 3) := by decide +kernel
theorem dX12_limit_15 : decode cX12_limit 15 = .ok (.ldc2_w 236, 3) := by decide +kernel
theorem dX12_limit_18 : decode cX12_limit 18 = .ok (.invokestatic 110, 3) := by decide +kernel
theorem dX12_limit_21 : decode cX12_limit 21 = .ok (.ifCond .ne 6, 3) := by decide +kernel
theorem dX12_limit_24 : decode cX12_limit 24 = .ok (.bipush (-2), 2) := by decide +kernel
theorem dX12_limit_26 : decode cX12_limit 26 = .ok (.ireturn, 1) := by decide +kernel
theorem dX12_limit_27 : decode cX12_limit 27 = .ok (.aload_n 0, 1) := by decide +kernel
theorem dX12_limit_28 : decode cX12_limit 28 = .ok (.getfield 65, 3) := by decide +kernel
theorem dX12_limit_31 : decode cX12_limit 31 = .ok (.iload_n 1, 1) := by decide +kernel
theorem dX12_limit_32 : decode cX12_limit 32 = .ok (.iconst 1, 1) := by decide +kernel
theorem dX12_limit_33 : decode cX12_limit 33 = .ok (.bastore, 1) := by decide +kernel
theorem dX12_limit_34 : decode cX12_limit 34 = .ok (.aload_n 0, 1) := by decide +kernel
theorem dX12_limit_35 : decode cX12_limit 35 = .ok (.getfield 69, 3) := by decide +kernel
theorem dX12_limit_38 : decode cX12_limit 38 = .ok (.iload_n 1, 1) := by decide +kernel
theorem dX12_limit_39 : decode cX12_limit 39 = .ok (.iload_n 2, 1) := by decide +kernel
theorem dX12_limit_40 : decode cX12_limit 40 = .ok (.iastore, 1) := by decide +kernel
theorem dX12_limit_41 : decode cX12_limit 41 = .ok (.iconst 1, 1) := by decide +kernel
theorem dX12_limit_42 : decode cX12_limit 42 = .ok (.ireturn, 1) := by decide +kernel
theorem dX12_lose_0 : decode cX12_lose 0 = .ok (.aload_n 0, 1) := by decide +kernel
theorem dX12_lose_1 : decode cX12_lose 1 = .ok (.iload_n 1, 1) := by decide +kernel
theorem dX12_lose_2 : decode cX12_lose 2 = .ok (.invokevirtual 231, 3) := by decide +kernel
theorem dX12_lose_5 : decode cX12_lose 5 = .ok (.ifCond .ne 5, 3) := by decide +kernel
theorem dX12_lose_8 : decode cX12_lose 8 = .ok (.iconst (-1), 1) := by decide +kernel
theorem dX12_lose_9 : decode cX12_lose 9 = .ok (.ireturn, 1) := by decide +kernel
theorem dX12_lose_10 : decode cX12_lose 10 = .ok (.iload_n 2, 1) := by decide +kernel
theorem dX12_lose_11 : decode cX12_lose 11 = .ok (.i2l, 1) := by decide +kernel
theorem dX12_lose_12 : decode cX12_lose 12 = .ok (.lconst 0, 1) := by decide +kernel
theorem dX12_lose_13 : decode cX12_lose 13 = .ok (.ldc2_w 238, 3) := by decide +kernel
theorem dX12_lose_16 : decode cX12_lose 16 = .ok (.invokestatic 110, 3) := by decide +kernel
theorem dX12_lose_19 : decode cX12_lose 19 = .ok (.ifCond .eq 16, 3) := by decide +kernel
theorem dX12_lose_22 : decode cX12_lose 22 = .ok (.iload_n 3, 1) := by decide +kernel
theorem dX12_lose_23 : decode cX12_lose 23 = .ok (.i2l, 1) := by decide +kernel
theorem dX12_lose_24 : decode cX12_lose 24 = .ok (.iload_n 2, 1) := by decide +kernel
theorem dX12_lose_25 : decode cX12_lose 25 = .ok (.i2l, 1) := by decide +kernel
theorem dX12_lose_26 : decode cX12_lose 26 = .ok (.ldc2_w 238, 3) := by decide +kernel
theorem dX12_lose_29 : decode cX12_lose 29 = .ok (.invokestatic 110, 3) := by decide +kernel
theorem dX12_lose_32 : decode cX12_lose 32 = .ok (.ifCond .ne 6, 3) := by decide +kernel
theorem dX12_lose_35 : decode cX12_lose 35 = .ok (.bipush (-2), 2) := by decide +kernel
theorem dX12_lose_37 : decode cX12_lose 37 = .ok (.ireturn, 1) := by decide +kernel
theorem dX12_lose_38 : decode cX12_lose 38 = .ok (.aload_n 0, 1) := by decide +kernel
theorem dX12_lose_39 : decode cX12_lose 39 = .ok (.getfield 240, 3) := by decide +kernel
theorem dX12_lose_42 : decode cX12_lose 42 = .ok (.bipush 20, 2) := by decide +kernel
theorem dX12_lose_44 : decode cX12_lose 44 = .ok (.if_icmp .ne 6, 3) := by decide +kernel
theorem dX12_lose_47 : decode cX12_lose 47 = .ok (.bipush (-4), 2) := by decide +kernel
theorem dX12_lose_49 : decode cX12_lose 49 = .ok (.ireturn, 1) := by decide +kernel
theorem dX12_lose_50 : decode cX12_lose 50 = .ok (.aload_n 0, 1) := by decide +kernel
theorem dX12_lose_51 : decode cX12_lose 51 = .ok (.getfield 72, 3) := by decide +kernel
theorem dX12_lose_54 : decode cX12_lose 54 = .ok (.aload_n 0, 1) := by decide +kernel
theorem dX12_lose_55 : decode cX12_lose 55 = .ok (.getfield 240, 3) := by decide +kernel
theorem dX12_lose_58 : decode cX12_lose 58 = .ok (.iload_n 1, 1) := by decide +kernel
theorem dX12_lose_59 : decode cX12_lose 59 = .ok (.iastore, 1) := by decide +kernel
theorem dX12_lose_60 : decode cX12_lose 60 = .ok (.aload_n 0, 1) := by decide +kernel
theorem dX12_lose_61 : decode cX12_lose 61 = .ok (.getfield 75, 3) := by decide +kernel
theorem dX12_lose_64 : decode cX12_lose 64 = .ok (.aload_n 0, 1) := by decide +kernel
theorem dX12_lose_65 : decode cX12_lose 65 = .ok (.getfield 240, 3) := by decide +kernel
theorem dX12_lose_68 : decode cX12_lose 68 = .ok (.iload_n 2, 1) := by decide +kernel
theorem dX12_lose_69 : decode cX12_lose 69 = .ok (.iastore, 1) := by decide +kernel
theorem dX12_lose_70 : decode cX12_lose 70 = .ok (.aload_n 0, 1) := by decide +kernel
theorem dX12_lose_71 : decode cX12_lose 71 = .ok (.getfield 78, 3) := by decide +kernel
theorem dX12_lose_74 : decode cX12_lose 74 = .ok (.aload_n 0, 1) := by decide +kernel
theorem dX12_lose_75 : decode cX12_lose 75 = .ok (.getfield 240, 3) := by decide +kernel
theorem dX12_lose_78 : decode cX12_lose 78 = .ok (.iload_n 3, 1) := by decide +kernel
theorem dX12_lose_79 : decode cX12_lose 79 = .ok (.iastore, 1) := by decide +kernel
theorem dX12_lose_80 : decode cX12_lose 80 = .ok (.aload_n 0, 1) := by decide +kernel
theorem dX12_lose_81 : decode cX12_lose 81 = .ok (.dup, 1) := by decide +kernel
theorem dX12_lose_82 : decode cX12_lose 82 = .ok (.getfield 240, 3) := by decide +kernel
theorem dX12_lose_85 : decode cX12_lose 85 = .ok (.iconst 1, 1) := by decide +kernel
theorem dX12_lose_86 : decode cX12_lose 86 = .ok (.iadd, 1) := by decide +kernel
theorem dX12_lose_87 : decode cX12_lose 87 = .ok (.putfield 240, 3) := by decide +kernel
theorem dX12_lose_90 : decode cX12_lose 90 = .ok (.aload_n 0, 1) := by decide +kernel
theorem dX12_lose_91 : decode cX12_lose 91 = .ok (.getfield 240, 3) := by decide +kernel
theorem dX12_lose_94 : decode cX12_lose 94 = .ok (.ireturn, 1) := by decide +kernel
theorem dX12_isLost_0 : decode cX12_isLost 0 = .ok (.iload_n 2, 1) := by decide +kernel
theorem dX12_isLost_1 : decode cX12_isLost 1 = .ok (.aload_n 0, 1) := by decide +kernel
theorem dX12_isLost_2 : decode cX12_isLost 2 = .ok (.getfield 56, 3) := by decide +kernel
theorem dX12_isLost_5 : decode cX12_isLost 5 = .ok (.iload_n 1, 1) := by decide +kernel
theorem dX12_isLost_6 : decode cX12_isLost 6 = .ok (.iaload, 1) := by decide +kernel
theorem dX12_isLost_7 : decode cX12_isLost 7 = .ok (.if_icmp .ge 7, 3) := by decide +kernel
theorem dX12_isLost_10 : decode cX12_isLost 10 = .ok (.iconst 1, 1) := by decide +kernel
theorem dX12_isLost_11 : decode cX12_isLost 11 = .ok (.goto 4, 3) := by decide +kernel
theorem dX12_isLost_14 : decode cX12_isLost 14 = .ok (.iconst 0, 1) := by decide +kernel
theorem dX12_isLost_15 : decode cX12_isLost 15 = .ok (.istore_n 3, 1) := by decide +kernel
theorem dX12_isLost_16 : decode cX12_isLost 16 = .ok (.iconst 0, 1) := by decide +kernel
theorem dX12_isLost_17 : decode cX12_isLost 17 = .ok (.istore 4, 2) := by decide +kernel
theorem dX12_isLost_19 : decode cX12_isLost 19 = .ok (.iload 4, 2) := by decide +kernel
theorem dX12_isLost_21 : decode cX12_isLost 21 = .ok (.aload_n 0, 1) := by decide +kernel
theorem dX12_isLost_22 : decode cX12_isLost 22 = .ok (.getfield 240, 3) := by decide +kernel
theorem dX12_isLost_25 : decode cX12_isLost 25 = .ok (.if_icmp .ge 52, 3) := by decide +kernel
theorem dX12_isLost_28 : decode cX12_isLost 28 = .ok (.iload_n 3, 1) := by decide +kernel
theorem dX12_isLost_29 : decode cX12_isLost 29 = .ok (.ifCond .ne 48, 3) := by decide +kernel
theorem dX12_isLost_32 : decode cX12_isLost 32 = .ok (.aload_n 0, 1) := by decide +kernel
theorem dX12_isLost_33 : decode cX12_isLost 33 = .ok (.getfield 72, 3) := by decide +kernel
theorem dX12_isLost_36 : decode cX12_isLost 36 = .ok (.iload 4, 2) := by decide +kernel
theorem dX12_isLost_38 : decode cX12_isLost 38 = .ok (.iaload, 1) := by decide +kernel
theorem dX12_isLost_39 : decode cX12_isLost 39 = .ok (.iload_n 1, 1) := by decide +kernel
theorem dX12_isLost_40 : decode cX12_isLost 40 = .ok (.if_icmp .ne 29, 3) := by decide +kernel
theorem dX12_isLost_43 : decode cX12_isLost 43 = .ok (.iload_n 2, 1) := by decide +kernel
theorem dX12_isLost_44 : decode cX12_isLost 44 = .ok (.aload_n 0, 1) := by decide +kernel
theorem dX12_isLost_45 : decode cX12_isLost 45 = .ok (.getfield 75, 3) := by decide +kernel
theorem dX12_isLost_48 : decode cX12_isLost 48 = .ok (.iload 4, 2) := by decide +kernel
theorem dX12_isLost_50 : decode cX12_isLost 50 = .ok (.iaload, 1) := by decide +kernel
theorem dX12_isLost_51 : decode cX12_isLost 51 = .ok (.if_icmp .lt 18, 3) := by decide +kernel
theorem dX12_isLost_54 : decode cX12_isLost 54 = .ok (.iload_n 2, 1) := by decide +kernel
theorem dX12_isLost_55 : decode cX12_isLost 55 = .ok (.aload_n 0, 1) := by decide +kernel
theorem dX12_isLost_56 : decode cX12_isLost 56 = .ok (.getfield 78, 3) := by decide +kernel
theorem dX12_isLost_59 : decode cX12_isLost 59 = .ok (.iload 4, 2) := by decide +kernel
theorem dX12_isLost_61 : decode cX12_isLost 61 = .ok (.iaload, 1) := by decide +kernel
theorem dX12_isLost_62 : decode cX12_isLost 62 = .ok (.if_icmp .gt 7, 3) := by decide +kernel
theorem dX12_isLost_65 : decode cX12_isLost 65 = .ok (.iconst 1, 1) := by decide +kernel
theorem dX12_isLost_66 : decode cX12_isLost 66 = .ok (.goto 4, 3) := by decide +kernel
theorem dX12_isLost_69 : decode cX12_isLost 69 = .ok (.iconst 0, 1) := by decide +kernel
theorem dX12_isLost_70 : decode cX12_isLost 70 = .ok (.istore_n 3, 1) := by decide +kernel
theorem dX12_isLost_71 : decode cX12_isLost 71 = .ok (.iinc 4 1, 3) := by decide +kernel
theorem dX12_isLost_74 : decode cX12_isLost 74 = .ok (.goto (-55), 3) := by decide +kernel
theorem dX12_isLost_77 : decode cX12_isLost 77 = .ok (.iload_n 3, 1) := by decide +kernel
theorem dX12_isLost_78 : decode cX12_isLost 78 = .ok (.ireturn, 1) := by decide +kernel
theorem dX12_raw_0 : decode cX12_raw 0 = .ok (.aload_n 0, 1) := by decide +kernel
theorem dX12_raw_1 : decode cX12_raw 1 = .ok (.getfield 20, 3) := by decide +kernel
theorem dX12_raw_4 : decode cX12_raw 4 = .ok (.bipush 7, 2) := by decide +kernel
theorem dX12_raw_6 : decode cX12_raw 6 = .ok (.iload_n 2, 1) := by decide +kernel
theorem dX12_raw_7 : decode cX12_raw 7 = .ok (.aload_n 0, 1) := by decide +kernel
theorem dX12_raw_8 : decode cX12_raw 8 = .ok (.getfield 56, 3) := by decide +kernel
theorem dX12_raw_11 : decode cX12_raw 11 = .ok (.iload_n 1, 1) := by decide +kernel
theorem dX12_raw_12 : decode cX12_raw 12 = .ok (.iaload, 1) := by decide +kernel
theorem dX12_raw_13 : decode cX12_raw 13 = .ok (.isub, 1) := by decide +kernel
theorem dX12_raw_14 : decode cX12_raw 14 = .ok (.imul, 1) := by decide +kernel
theorem dX12_raw_15 : decode cX12_raw 15 = .ok (.aload_n 0, 1) := by decide +kernel
theorem dX12_raw_16 : decode cX12_raw 16 = .ok (.getfield 50, 3) := by decide +kernel
theorem dX12_raw_19 : decode cX12_raw 19 = .ok (.iload_n 1, 1) := by decide +kernel
theorem dX12_raw_20 : decode cX12_raw 20 = .ok (.iaload, 1) := by decide +kernel
theorem dX12_raw_21 : decode cX12_raw 21 = .ok (.iadd, 1) := by decide +kernel
theorem dX12_raw_22 : decode cX12_raw 22 = .ok (.iaload, 1) := by decide +kernel
theorem dX12_raw_23 : decode cX12_raw 23 = .ok (.ireturn, 1) := by decide +kernel
theorem dX12_isCut_0 : decode cX12_isCut 0 = .ok (.aload_n 0, 1) := by decide +kernel
theorem dX12_isCut_1 : decode cX12_isCut 1 = .ok (.iload_n 1, 1) := by decide +kernel
theorem dX12_isCut_2 : decode cX12_isCut 2 = .ok (.iload_n 2, 1) := by decide +kernel
theorem dX12_isCut_3 : decode cX12_isCut 3 = .ok (.invokevirtual 243, 3) := by decide +kernel
theorem dX12_isCut_6 : decode cX12_isCut 6 = .ok (.istore_n 3, 1) := by decide +kernel
theorem dX12_isCut_7 : decode cX12_isCut 7 = .ok (.iload_n 3, 1) := by decide +kernel
theorem dX12_isCut_8 : decode cX12_isCut 8 = .ok (.aload_n 0, 1) := by decide +kernel
theorem dX12_isCut_9 : decode cX12_isCut 9 = .ok (.getfield 59, 3) := by decide +kernel
theorem dX12_isCut_12 : decode cX12_isCut 12 = .ok (.iload_n 1, 1) := by decide +kernel
theorem dX12_isCut_13 : decode cX12_isCut 13 = .ok (.iaload, 1) := by decide +kernel
theorem dX12_isCut_14 : decode cX12_isCut 14 = .ok (.if_icmp .lt 13, 3) := by decide +kernel
theorem dX12_isCut_17 : decode cX12_isCut 17 = .ok (.iload_n 3, 1) := by decide +kernel
theorem dX12_isCut_18 : decode cX12_isCut 18 = .ok (.aload_n 0, 1) := by decide +kernel
theorem dX12_isCut_19 : decode cX12_isCut 19 = .ok (.getfield 62, 3) := by decide +kernel
theorem dX12_isCut_22 : decode cX12_isCut 22 = .ok (.iload_n 1, 1) := by decide +kernel
theorem dX12_isCut_23 : decode cX12_isCut 23 = .ok (.iaload, 1) := by decide +kernel
theorem dX12_isCut_24 : decode cX12_isCut 24 = .ok (.if_icmp .le 7, 3) := by decide +kernel
theorem dX12_isCut_27 : decode cX12_isCut 27 = .ok (.iconst 1, 1) := by decide +kernel
theorem dX12_isCut_28 : decode cX12_isCut 28 = .ok (.goto 4, 3) := by decide +kernel
theorem dX12_isCut_31 : decode cX12_isCut 31 = .ok (.iconst 0, 1) := by decide +kernel
theorem dX12_isCut_32 : decode cX12_isCut 32 = .ok (.ireturn, 1) := by decide +kernel
theorem dX12_corrected_0 : decode cX12_corrected 0 = .ok (.aload_n 0, 1) := by decide +kernel
theorem dX12_corrected_1 : decode cX12_corrected 1 = .ok (.iload_n 1, 1) := by decide +kernel
theorem dX12_corrected_2 : decode cX12_corrected 2 = .ok (.iload_n 2, 1) := by decide +kernel
theorem dX12_corrected_3 : decode cX12_corrected 3 = .ok (.invokevirtual 243, 3) := by decide +kernel
theorem dX12_corrected_6 : decode cX12_corrected 6 = .ok (.i2l, 1) := by decide +kernel
theorem dX12_corrected_7 : decode cX12_corrected 7 = .ok (.lstore_n 3, 1) := by decide +kernel
theorem dX12_corrected_8 : decode cX12_corrected 8 = .ok (.lload_n 3, 1) := by decide +kernel
theorem dX12_corrected_9 : decode cX12_corrected 9 = .ok (.aload_n 0, 1) := by decide +kernel
theorem dX12_corrected_10 : decode cX12_corrected 10 = .ok (.getfield 59, 3) := by decide +kernel
theorem dX12_corrected_13 : decode cX12_corrected 13 = .ok (.iload_n 1, 1) := by decide +kernel
theorem dX12_corrected_14 : decode cX12_corrected 14 = .ok (.iaload, 1) := by decide +kernel
theorem dX12_corrected_15 : decode cX12_corrected 15 = .ok (.i2l, 1) := by decide +kernel
theorem dX12_corrected_16 : decode cX12_corrected 16 = .ok (.lcmp, 1) := by decide +kernel
theorem dX12_corrected_17 : decode cX12_corrected 17 = .ok (.ifCond .ge 13, 3) := by decide +kernel
theorem dX12_corrected_20 : decode cX12_corrected 20 = .ok (.aload_n 0, 1) := by decide +kernel
theorem dX12_corrected_21 : decode cX12_corrected 21 = .ok (.getfield 59, 3) := by decide +kernel
theorem dX12_corrected_24 : decode cX12_corrected 24 = .ok (.iload_n 1, 1) := by decide +kernel
theorem dX12_corrected_25 : decode cX12_corrected 25 = .ok (.iaload, 1) := by decide +kernel
theorem dX12_corrected_26 : decode cX12_corrected 26 = .ok (.i2l, 1) := by decide +kernel
theorem dX12_corrected_27 : decode cX12_corrected 27 = .ok (.goto 26, 3) := by decide +kernel
theorem dX12_corrected_30 : decode cX12_corrected 30 = .ok (.lload_n 3, 1) := by decide +kernel
theorem dX12_corrected_31 : decode cX12_corrected 31 = .ok (.aload_n 0, 1) := by decide +kernel
theorem dX12_corrected_32 : decode cX12_corrected 32 = .ok (.getfield 62, 3) := by decide +kernel
theorem dX12_corrected_35 : decode cX12_corrected 35 = .ok (.iload_n 1, 1) := by decide +kernel
theorem dX12_corrected_36 : decode cX12_corrected 36 = .ok (.iaload, 1) := by decide +kernel
theorem dX12_corrected_37 : decode cX12_corrected 37 = .ok (.i2l, 1) := by decide +kernel
theorem dX12_corrected_38 : decode cX12_corrected 38 = .ok (.lcmp, 1) := by decide +kernel
theorem dX12_corrected_39 : decode cX12_corrected 39 = .ok (.ifCond .le 13, 3) := by decide +kernel
theorem dX12_corrected_42 : decode cX12_corrected 42 = .ok (.aload_n 0, 1) := by decide +kernel
theorem dX12_corrected_43 : decode cX12_corrected 43 = .ok (.getfield 62, 3) := by decide +kernel
theorem dX12_corrected_46 : decode cX12_corrected 46 = .ok (.iload_n 1, 1) := by decide +kernel
theorem dX12_corrected_47 : decode cX12_corrected 47 = .ok (.iaload, 1) := by decide +kernel
theorem dX12_corrected_48 : decode cX12_corrected 48 = .ok (.i2l, 1) := by decide +kernel
theorem dX12_corrected_49 : decode cX12_corrected 49 = .ok (.goto 4, 3) := by decide +kernel
theorem dX12_corrected_52 : decode cX12_corrected 52 = .ok (.lload_n 3, 1) := by decide +kernel
theorem dX12_corrected_53 : decode cX12_corrected 53 = .ok (.lstore_n 3, 1) := by decide +kernel
theorem dX12_corrected_54 : decode cX12_corrected 54 = .ok (.aload_n 0, 1) := by decide +kernel
theorem dX12_corrected_55 : decode cX12_corrected 55 = .ok (.getfield 222, 3) := by decide +kernel
theorem dX12_corrected_58 : decode cX12_corrected 58 = .ok (.iconst 1, 1) := by decide +kernel
theorem dX12_corrected_59 : decode cX12_corrected 59 = .ok (.isub, 1) := by decide +kernel
theorem dX12_corrected_60 : decode cX12_corrected 60 = .ok (.istore 5, 2) := by decide +kernel
theorem dX12_corrected_62 : decode cX12_corrected 62 = .ok (.iload 5, 2) := by decide +kernel
theorem dX12_corrected_64 : decode cX12_corrected 64 = .ok (.ifCond .lt 55, 3) := by decide +kernel
theorem dX12_corrected_67 : decode cX12_corrected 67 = .ok (.aload_n 0, 1) := by decide +kernel
theorem dX12_corrected_68 : decode cX12_corrected 68 = .ok (.getfield 81, 3) := by decide +kernel
theorem dX12_corrected_71 : decode cX12_corrected 71 = .ok (.iload 5, 2) := by decide +kernel
theorem dX12_corrected_73 : decode cX12_corrected 73 = .ok (.iaload, 1) := by decide +kernel
theorem dX12_corrected_74 : decode cX12_corrected 74 = .ok (.iload_n 1, 1) := by decide +kernel
theorem dX12_corrected_75 : decode cX12_corrected 75 = .ok (.if_icmp .ne 38, 3) := by decide +kernel
theorem dX12_corrected_78 : decode cX12_corrected 78 = .ok (.aload_n 0, 1) := by decide +kernel
theorem dX12_corrected_79 : decode cX12_corrected 79 = .ok (.getfield 84, 3) := by decide +kernel
theorem dX12_corrected_82 : decode cX12_corrected 82 = .ok (.iload 5, 2) := by decide +kernel
theorem dX12_corrected_84 : decode cX12_corrected 84 = .ok (.iaload, 1) := by decide +kernel
theorem dX12_corrected_85 : decode cX12_corrected 85 = .ok (.iload_n 2, 1) := by decide +kernel
theorem dX12_corrected_86 : decode cX12_corrected 86 = .ok (.if_icmp .gt 27, 3) := by decide +kernel
theorem dX12_corrected_89 : decode cX12_corrected 89 = .ok (.lload_n 3, 1) := by decide +kernel
theorem dX12_corrected_90 : decode cX12_corrected 90 = .ok (.aload_n 0, 1) := by decide +kernel
theorem dX12_corrected_91 : decode cX12_corrected 91 = .ok (.getfield 87, 3) := by decide +kernel
theorem dX12_corrected_94 : decode cX12_corrected 94 = .ok (.iload 5, 2) := by decide +kernel
theorem dX12_corrected_96 : decode cX12_corrected 96 = .ok (.iaload, 1) := by decide +kernel
theorem dX12_corrected_97 : decode cX12_corrected 97 = .ok (.i2l, 1) := by decide +kernel
theorem dX12_corrected_98 : decode cX12_corrected 98 = .ok (.lmul, 1) := by decide +kernel
theorem dX12_corrected_99 : decode cX12_corrected 99 = .ok (.ldc2_w 116, 3) := by decide +kernel
theorem dX12_corrected_102 : decode cX12_corrected 102 = .ok (.ldiv, 1) := by decide +kernel
theorem dX12_corrected_103 : decode cX12_corrected 103 = .ok (.aload_n 0, 1) := by decide +kernel
theorem dX12_corrected_104 : decode cX12_corrected 104 = .ok (.getfield 90, 3) := by decide +kernel
theorem dX12_corrected_107 : decode cX12_corrected 107 = .ok (.iload 5, 2) := by decide +kernel
theorem dX12_corrected_109 : decode cX12_corrected 109 = .ok (.iaload, 1) := by decide +kernel
theorem dX12_corrected_110 : decode cX12_corrected 110 = .ok (.i2l, 1) := by decide +kernel
theorem dX12_corrected_111 : decode cX12_corrected 111 = .ok (.ladd, 1) := by decide +kernel
theorem dX12_corrected_112 : decode cX12_corrected 112 = .ok (.lreturn, 1) := by decide +kernel
theorem dX12_corrected_113 : decode cX12_corrected 113 = .ok (.iinc 5 (-1), 3) := by decide +kernel
theorem dX12_corrected_116 : decode cX12_corrected 116 = .ok (.goto (-54), 3) := by decide +kernel
theorem dX12_corrected_119 : decode cX12_corrected 119 = .ok (.lload_n 3, 1) := by decide +kernel
theorem dX12_corrected_120 : decode cX12_corrected 120 = .ok (.lreturn, 1) := by decide +kernel
theorem dX12_isRead_0 : decode cX12_isRead 0 = .ok (.aload_n 0, 1) := by decide +kernel
theorem dX12_isRead_1 : decode cX12_isRead 1 = .ok (.iload_n 1, 1) := by decide +kernel
theorem dX12_isRead_2 : decode cX12_isRead 2 = .ok (.invokevirtual 231, 3) := by decide +kernel
theorem dX12_isRead_5 : decode cX12_isRead 5 = .ok (.ifCond .eq 32, 3) := by decide +kernel
theorem dX12_isRead_8 : decode cX12_isRead 8 = .ok (.iload_n 2, 1) := by decide +kernel
theorem dX12_isRead_9 : decode cX12_isRead 9 = .ok (.i2l, 1) := by decide +kernel
theorem dX12_isRead_10 : decode cX12_isRead 10 = .ok (.lconst 0, 1) := by decide +kernel
theorem dX12_isRead_11 : decode cX12_isRead 11 = .ok (.aload_n 0, 1) := by decide +kernel
theorem dX12_isRead_12 : decode cX12_isRead 12 = .ok (.getfield 190, 3) := by decide +kernel
theorem dX12_isRead_15 : decode cX12_isRead 15 = .ok (.i2l, 1) := by decide +kernel
theorem dX12_isRead_16 : decode cX12_isRead 16 = .ok (.invokestatic 110, 3) := by decide +kernel
theorem dX12_isRead_19 : decode cX12_isRead 19 = .ok (.ifCond .eq 18, 3) := by decide +kernel
theorem dX12_isRead_22 : decode cX12_isRead 22 = .ok (.iload_n 2, 1) := by decide +kernel
theorem dX12_isRead_23 : decode cX12_isRead 23 = .ok (.aload_n 0, 1) := by decide +kernel
theorem dX12_isRead_24 : decode cX12_isRead 24 = .ok (.getfield 53, 3) := by decide +kernel
theorem dX12_isRead_27 : decode cX12_isRead 27 = .ok (.iload_n 1, 1) := by decide +kernel
theorem dX12_isRead_28 : decode cX12_isRead 28 = .ok (.iaload, 1) := by decide +kernel
theorem dX12_isRead_29 : decode cX12_isRead 29 = .ok (.irem, 1) := by decide +kernel
theorem dX12_isRead_30 : decode cX12_isRead 30 = .ok (.ifCond .ne 7, 3) := by decide +kernel
theorem dX12_isRead_33 : decode cX12_isRead 33 = .ok (.iconst 1, 1) := by decide +kernel
theorem dX12_isRead_34 : decode cX12_isRead 34 = .ok (.goto 4, 3) := by decide +kernel
theorem dX12_isRead_37 : decode cX12_isRead 37 = .ok (.iconst 0, 1) := by decide +kernel
theorem dX12_isRead_38 : decode cX12_isRead 38 = .ok (.ireturn, 1) := by decide +kernel
theorem dX12_reading_0 : decode cX12_reading 0 = .ok (.aload_n 0, 1) := by decide +kernel
theorem dX12_reading_1 : decode cX12_reading 1 = .ok (.iload_n 1, 1) := by decide +kernel
theorem dX12_reading_2 : decode cX12_reading 2 = .ok (.iload_n 2, 1) := by decide +kernel
theorem dX12_reading_3 : decode cX12_reading 3 = .ok (.invokevirtual 246, 3) := by decide +kernel
theorem dX12_reading_6 : decode cX12_reading 6 = .ok (.ifCond .eq 21, 3) := by decide +kernel
theorem dX12_reading_9 : decode cX12_reading 9 = .ok (.aload_n 0, 1) := by decide +kernel
theorem dX12_reading_10 : decode cX12_reading 10 = .ok (.iload_n 1, 1) := by decide +kernel
theorem dX12_reading_11 : decode cX12_reading 11 = .ok (.iload_n 2, 1) := by decide +kernel
theorem dX12_reading_12 : decode cX12_reading 12 = .ok (.invokevirtual 208, 3) := by decide +kernel
theorem dX12_reading_15 : decode cX12_reading 15 = .ok (.ifCond .ne 12, 3) := by decide +kernel
theorem dX12_reading_18 : decode cX12_reading 18 = .ok (.aload_n 0, 1) := by decide +kernel
theorem dX12_reading_19 : decode cX12_reading 19 = .ok (.iload_n 1, 1) := by decide +kernel
theorem dX12_reading_20 : decode cX12_reading 20 = .ok (.iload_n 2, 1) := by decide +kernel
theorem dX12_reading_21 : decode cX12_reading 21 = .ok (.invokevirtual 212, 3) := by decide +kernel
theorem dX12_reading_24 : decode cX12_reading 24 = .ok (.goto 6, 3) := by decide +kernel
theorem dX12_reading_27 : decode cX12_reading 27 = .ok (.ldc2_w 106, 3) := by decide +kernel
theorem dX12_reading_30 : decode cX12_reading 30 = .ok (.lreturn, 1) := by decide +kernel
theorem dX12_state_0 : decode cX12_state 0 = .ok (.aload_n 0, 1) := by decide +kernel
theorem dX12_state_1 : decode cX12_state 1 = .ok (.iload_n 1, 1) := by decide +kernel
theorem dX12_state_2 : decode cX12_state 2 = .ok (.iload_n 2, 1) := by decide +kernel
theorem dX12_state_3 : decode cX12_state 3 = .ok (.invokevirtual 246, 3) := by decide +kernel
theorem dX12_state_6 : decode cX12_state 6 = .ok (.ifCond .ne 5, 3) := by decide +kernel
theorem dX12_state_9 : decode cX12_state 9 = .ok (.iconst (-1), 1) := by decide +kernel
theorem dX12_state_10 : decode cX12_state 10 = .ok (.ireturn, 1) := by decide +kernel
theorem dX12_state_11 : decode cX12_state 11 = .ok (.aload_n 0, 1) := by decide +kernel
theorem dX12_state_12 : decode cX12_state 12 = .ok (.iload_n 1, 1) := by decide +kernel
theorem dX12_state_13 : decode cX12_state 13 = .ok (.iload_n 2, 1) := by decide +kernel
theorem dX12_state_14 : decode cX12_state 14 = .ok (.invokevirtual 208, 3) := by decide +kernel
theorem dX12_state_17 : decode cX12_state 17 = .ok (.ifCond .eq 7, 3) := by decide +kernel
theorem dX12_state_20 : decode cX12_state 20 = .ok (.iconst 2, 1) := by decide +kernel
theorem dX12_state_21 : decode cX12_state 21 = .ok (.goto 17, 3) := by decide +kernel
theorem dX12_state_24 : decode cX12_state 24 = .ok (.aload_n 0, 1) := by decide +kernel
theorem dX12_state_25 : decode cX12_state 25 = .ok (.iload_n 1, 1) := by decide +kernel
theorem dX12_state_26 : decode cX12_state 26 = .ok (.iload_n 2, 1) := by decide +kernel
theorem dX12_state_27 : decode cX12_state 27 = .ok (.invokevirtual 249, 3) := by decide +kernel
theorem dX12_state_30 : decode cX12_state 30 = .ok (.ifCond .eq 7, 3) := by decide +kernel
theorem dX12_state_33 : decode cX12_state 33 = .ok (.iconst 1, 1) := by decide +kernel
theorem dX12_state_34 : decode cX12_state 34 = .ok (.goto 4, 3) := by decide +kernel
theorem dX12_state_37 : decode cX12_state 37 = .ok (.iconst 0, 1) := by decide +kernel
theorem dX12_state_38 : decode cX12_state 38 = .ok (.ireturn, 1) := by decide +kernel
theorem dX12_makeReport_0 : decode cX12_makeReport 0 = .ok (.iconst 0, 1) := by decide +kernel
theorem dX12_makeReport_1 : decode cX12_makeReport 1 = .ok (.istore_n 3, 1) := by decide +kernel
theorem dX12_makeReport_2 : decode cX12_makeReport 2 = .ok (.iload_n 3, 1) := by decide +kernel
theorem dX12_makeReport_3 : decode cX12_makeReport 3 = .ok (.bipush 8, 2) := by decide +kernel
theorem dX12_makeReport_5 : decode cX12_makeReport 5 = .ok (.if_icmp .ge 16, 3) := by decide +kernel
theorem dX12_makeReport_8 : decode cX12_makeReport 8 = .ok (.aload_n 0, 1) := by decide +kernel
theorem dX12_makeReport_9 : decode cX12_makeReport 9 = .ok (.getfield 93, 3) := by decide +kernel
theorem dX12_makeReport_12 : decode cX12_makeReport 12 = .ok (.iload_n 3, 1) := by decide +kernel
theorem dX12_makeReport_13 : decode cX12_makeReport 13 = .ok (.lconst 0, 1) := by decide +kernel
theorem dX12_makeReport_14 : decode cX12_makeReport 14 = .ok (.lastore, 1) := by decide +kernel
theorem dX12_makeReport_15 : decode cX12_makeReport 15 = .ok (.iinc 3 1, 3) := by decide +kernel
theorem dX12_makeReport_18 : decode cX12_makeReport 18 = .ok (.goto (-16), 3) := by decide +kernel
theorem dX12_makeReport_21 : decode cX12_makeReport 21 = .ok (.aload_n 0, 1) := by decide +kernel
theorem dX12_makeReport_22 : decode cX12_makeReport 22 = .ok (.getfield 47, 3) := by decide +kernel
theorem dX12_makeReport_25 : decode cX12_makeReport 25 = .ok (.iload_n 1, 1) := by decide +kernel
theorem dX12_makeReport_26 : decode cX12_makeReport 26 = .ok (.iaload, 1) := by decide +kernel
theorem dX12_makeReport_27 : decode cX12_makeReport 27 = .ok (.istore_n 3, 1) := by decide +kernel
theorem dX12_makeReport_28 : decode cX12_makeReport 28 = .ok (.iload_n 1, 1) := by decide +kernel
theorem dX12_makeReport_29 : decode cX12_makeReport 29 = .ok (.iconst 1, 1) := by decide +kernel
theorem dX12_makeReport_30 : decode cX12_makeReport 30 = .ok (.iadd, 1) := by decide +kernel
theorem dX12_makeReport_31 : decode cX12_makeReport 31 = .ok (.aload_n 0, 1) := by decide +kernel
theorem dX12_makeReport_32 : decode cX12_makeReport 32 = .ok (.getfield 187, 3) := by decide +kernel
theorem dX12_makeReport_35 : decode cX12_makeReport 35 = .ok (.if_icmp .ge 16, 3) := by decide +kernel
theorem dX12_makeReport_38 : decode cX12_makeReport 38 = .ok (.aload_n 0, 1) := by decide +kernel
theorem dX12_makeReport_39 : decode cX12_makeReport 39 = .ok (.getfield 47, 3) := by decide +kernel
theorem dX12_makeReport_42 : decode cX12_makeReport 42 = .ok (.iload_n 1, 1) := by decide +kernel
theorem dX12_makeReport_43 : decode cX12_makeReport 43 = .ok (.iconst 1, 1) := by decide +kernel
theorem dX12_makeReport_44 : decode cX12_makeReport 44 = .ok (.iadd, 1) := by decide +kernel
theorem dX12_makeReport_45 : decode cX12_makeReport 45 = .ok (.iaload, 1) := by decide +kernel
theorem dX12_makeReport_46 : decode cX12_makeReport 46 = .ok (.iconst 1, 1) := by decide +kernel
theorem dX12_makeReport_47 : decode cX12_makeReport 47 = .ok (.isub, 1) := by decide +kernel
theorem dX12_makeReport_48 : decode cX12_makeReport 48 = .ok (.goto 7, 3) := by decide +kernel
theorem dX12_makeReport_51 : decode cX12_makeReport 51 = .ok (.aload_n 0, 1) := by decide +kernel
theorem dX12_makeReport_52 : decode cX12_makeReport 52 = .ok (.getfield 190, 3) := by decide +kernel
theorem dX12_makeReport_55 : decode cX12_makeReport 55 = .ok (.istore 4, 2) := by decide +kernel
theorem dX12_makeReport_57 : decode cX12_makeReport 57 = .ok (.bipush (-9), 2) := by decide +kernel
theorem dX12_makeReport_59 : decode cX12_makeReport 59 = .ok (.istore 5, 2) := by decide +kernel
theorem dX12_makeReport_61 : decode cX12_makeReport 61 = .ok (.iload_n 3, 1) := by decide +kernel
theorem dX12_makeReport_62 : decode cX12_makeReport 62 = .ok (.istore 6, 2) := by decide +kernel
theorem dX12_makeReport_64 : decode cX12_makeReport 64 = .ok (.iload 6, 2) := by decide +kernel
theorem dX12_makeReport_66 : decode cX12_makeReport 66 = .ok (.iload 4, 2) := by decide +kernel
theorem dX12_makeReport_68 : decode cX12_makeReport 68 = .ok (.if_icmp .gt 255, 3) := by decide +kernel
theorem dX12_makeReport_71 : decode cX12_makeReport 71 = .ok (.iload 6, 2) := by decide +kernel
theorem dX12_makeReport_73 : decode cX12_makeReport 73 = .ok (.aload_n 0, 1) := by decide +kernel
theorem dX12_makeReport_74 : decode cX12_makeReport 74 = .ok (.getfield 53, 3) := by decide +kernel
theorem dX12_makeReport_77 : decode cX12_makeReport 77 = .ok (.iload_n 2, 1) := by decide +kernel
theorem dX12_makeReport_78 : decode cX12_makeReport 78 = .ok (.iaload, 1) := by decide +kernel
theorem dX12_makeReport_79 : decode cX12_makeReport 79 = .ok (.irem, 1) := by decide +kernel
theorem dX12_makeReport_80 : decode cX12_makeReport 80 = .ok (.ifCond .eq 6, 3) := by decide +kernel
theorem dX12_makeReport_83 : decode cX12_makeReport 83 = .ok (.goto 234, 3) := by decide +kernel
theorem dX12_makeReport_86 : decode cX12_makeReport 86 = .ok (.aload_n 0, 1) := by decide +kernel
theorem dX12_makeReport_87 : decode cX12_makeReport 87 = .ok (.iload_n 2, 1) := by decide +kernel
theorem dX12_makeReport_88 : decode cX12_makeReport 88 = .ok (.iload 6, 2) := by decide +kernel
theorem dX12_makeReport_90 : decode cX12_makeReport 90 = .ok (.invokevirtual 208, 3) := by decide +kernel
theorem dX12_makeReport_93 : decode cX12_makeReport 93 = .ok (.ifCond .eq 16, 3) := by decide +kernel
theorem dX12_makeReport_96 : decode cX12_makeReport 96 = .ok (.aload_n 0, 1) := by decide +kernel
theorem dX12_makeReport_97 : decode cX12_makeReport 97 = .ok (.getfield 93, 3) := by decide +kernel
theorem dX12_makeReport_100 : decode cX12_makeReport 100 = .ok (.iconst 1, 1) := by decide +kernel
theorem dX12_makeReport_101 : decode cX12_makeReport 101 = .ok (.dup2, 1) := by decide +kernel
theorem dX12_makeReport_102 : decode cX12_makeReport 102 = .ok (.laload, 1) := by decide +kernel
theorem dX12_makeReport_103 : decode cX12_makeReport 103 = .ok (.lconst 1, 1) := by decide +kernel
theorem dX12_makeReport_104 : decode cX12_makeReport 104 = .ok (.ladd, 1) := by decide +kernel
theorem dX12_makeReport_105 : decode cX12_makeReport 105 = .ok (.lastore, 1) := by decide +kernel
theorem dX12_makeReport_106 : decode cX12_makeReport 106 = .ok (.goto 211, 3) := by decide +kernel
theorem dX12_makeReport_109 : decode cX12_makeReport 109 = .ok (.aload_n 0, 1) := by decide +kernel
theorem dX12_makeReport_110 : decode cX12_makeReport 110 = .ok (.iload_n 2, 1) := by decide +kernel
theorem dX12_makeReport_111 : decode cX12_makeReport 111 = .ok (.iload 6, 2) := by decide +kernel
theorem dX12_makeReport_113 : decode cX12_makeReport 113 = .ok (.invokevirtual 212, 3) := by decide +kernel
theorem dX12_makeReport_116 : decode cX12_makeReport 116 = .ok (.lstore 7, 2) := by decide +kernel
theorem dX12_makeReport_118 : decode cX12_makeReport 118 = .ok (.aload_n 0, 1) := by decide +kernel
theorem dX12_makeReport_119 : decode cX12_makeReport 119 = .ok (.getfield 93, 3) := by decide +kernel
theorem dX12_makeReport_122 : decode cX12_makeReport 122 = .ok (.iconst 3, 1) := by decide +kernel
theorem dX12_makeReport_123 : decode cX12_makeReport 123 = .ok (.aload_n 0, 1) := by decide +kernel
theorem dX12_makeReport_124 : decode cX12_makeReport 124 = .ok (.getfield 93, 3) := by decide +kernel
theorem dX12_makeReport_127 : decode cX12_makeReport 127 = .ok (.iconst 0, 1) := by decide +kernel
theorem dX12_makeReport_128 : decode cX12_makeReport 128 = .ok (.laload, 1) := by decide +kernel
theorem dX12_makeReport_129 : decode cX12_makeReport 129 = .ok (.lconst 0, 1) := by decide +kernel
theorem dX12_makeReport_130 : decode cX12_makeReport 130 = .ok (.lcmp, 1) := by decide +kernel
theorem dX12_makeReport_131 : decode cX12_makeReport 131 = .ok (.ifCond .eq 15, 3) := by decide +kernel
theorem dX12_makeReport_134 : decode cX12_makeReport 134 = .ok (.lload 7, 2) := by decide +kernel
theorem dX12_makeReport_136 : decode cX12_makeReport 136 = .ok (.aload_n 0, 1) := by decide +kernel
theorem dX12_makeReport_137 : decode cX12_makeReport 137 = .ok (.getfield 93, 3) := by decide +kernel
theorem dX12_makeReport_140 : decode cX12_makeReport 140 = .ok (.iconst 3, 1) := by decide +kernel
theorem dX12_makeReport_141 : decode cX12_makeReport 141 = .ok (.laload, 1) := by decide +kernel
theorem dX12_makeReport_142 : decode cX12_makeReport 142 = .ok (.lcmp, 1) := by decide +kernel
theorem dX12_makeReport_143 : decode cX12_makeReport 143 = .ok (.ifCond .ge 8, 3) := by decide +kernel
theorem dX12_makeReport_146 : decode cX12_makeReport 146 = .ok (.lload 7, 2) := by decide +kernel
theorem dX12_makeReport_148 : decode cX12_makeReport 148 = .ok (.goto 9, 3) := by decide +kernel
theorem dX12_makeReport_151 : decode cX12_makeReport 151 = .ok (.aload_n 0, 1) := by decide +kernel
theorem dX12_makeReport_152 : decode cX12_makeReport 152 = .ok (.getfield 93, 3) := by decide +kernel
theorem dX12_makeReport_155 : decode cX12_makeReport 155 = .ok (.iconst 3, 1) := by decide +kernel
theorem dX12_makeReport_156 : decode cX12_makeReport 156 = .ok (.laload, 1) := by decide +kernel
theorem dX12_makeReport_157 : decode cX12_makeReport 157 = .ok (.lastore, 1) := by decide +kernel
theorem dX12_makeReport_158 : decode cX12_makeReport 158 = .ok (.aload_n 0, 1) := by decide +kernel
theorem dX12_makeReport_159 : decode cX12_makeReport 159 = .ok (.getfield 93, 3) := by decide +kernel
theorem dX12_makeReport_162 : decode cX12_makeReport 162 = .ok (.iconst 4, 1) := by decide +kernel
theorem dX12_makeReport_163 : decode cX12_makeReport 163 = .ok (.aload_n 0, 1) := by decide +kernel
theorem dX12_makeReport_164 : decode cX12_makeReport 164 = .ok (.getfield 93, 3) := by decide +kernel
theorem dX12_makeReport_167 : decode cX12_makeReport 167 = .ok (.iconst 0, 1) := by decide +kernel
theorem dX12_makeReport_168 : decode cX12_makeReport 168 = .ok (.laload, 1) := by decide +kernel
theorem dX12_makeReport_169 : decode cX12_makeReport 169 = .ok (.lconst 0, 1) := by decide +kernel
theorem dX12_makeReport_170 : decode cX12_makeReport 170 = .ok (.lcmp, 1) := by decide +kernel
theorem dX12_makeReport_171 : decode cX12_makeReport 171 = .ok (.ifCond .eq 15, 3) := by decide +kernel
theorem dX12_makeReport_174 : decode cX12_makeReport 174 = .ok (.lload 7, 2) := by decide +kernel
theorem dX12_makeReport_176 : decode cX12_makeReport 176 = .ok (.aload_n 0, 1) := by decide +kernel
theorem dX12_makeReport_177 : decode cX12_makeReport 177 = .ok (.getfield 93, 3) := by decide +kernel
theorem dX12_makeReport_180 : decode cX12_makeReport 180 = .ok (.iconst 4, 1) := by decide +kernel
theorem dX12_makeReport_181 : decode cX12_makeReport 181 = .ok (.laload, 1) := by decide +kernel
theorem dX12_makeReport_182 : decode cX12_makeReport 182 = .ok (.lcmp, 1) := by decide +kernel
theorem dX12_makeReport_183 : decode cX12_makeReport 183 = .ok (.ifCond .le 8, 3) := by decide +kernel
theorem dX12_makeReport_186 : decode cX12_makeReport 186 = .ok (.lload 7, 2) := by decide +kernel
theorem dX12_makeReport_188 : decode cX12_makeReport 188 = .ok (.goto 9, 3) := by decide +kernel
theorem dX12_makeReport_191 : decode cX12_makeReport 191 = .ok (.aload_n 0, 1) := by decide +kernel
theorem dX12_makeReport_192 : decode cX12_makeReport 192 = .ok (.getfield 93, 3) := by decide +kernel
theorem dX12_makeReport_195 : decode cX12_makeReport 195 = .ok (.iconst 4, 1) := by decide +kernel
theorem dX12_makeReport_196 : decode cX12_makeReport 196 = .ok (.laload, 1) := by decide +kernel
theorem dX12_makeReport_197 : decode cX12_makeReport 197 = .ok (.lastore, 1) := by decide +kernel
theorem dX12_makeReport_198 : decode cX12_makeReport 198 = .ok (.aload_n 0, 1) := by decide +kernel
theorem dX12_makeReport_199 : decode cX12_makeReport 199 = .ok (.getfield 93, 3) := by decide +kernel
theorem dX12_makeReport_202 : decode cX12_makeReport 202 = .ok (.iconst 0, 1) := by decide +kernel
theorem dX12_makeReport_203 : decode cX12_makeReport 203 = .ok (.dup2, 1) := by decide +kernel
theorem dX12_makeReport_204 : decode cX12_makeReport 204 = .ok (.laload, 1) := by decide +kernel
theorem dX12_makeReport_205 : decode cX12_makeReport 205 = .ok (.lconst 1, 1) := by decide +kernel
theorem dX12_makeReport_206 : decode cX12_makeReport 206 = .ok (.ladd, 1) := by decide +kernel
theorem dX12_makeReport_207 : decode cX12_makeReport 207 = .ok (.lastore, 1) := by decide +kernel
theorem dX12_makeReport_208 : decode cX12_makeReport 208 = .ok (.aload_n 0, 1) := by decide +kernel
theorem dX12_makeReport_209 : decode cX12_makeReport 209 = .ok (.getfield 93, 3) := by decide +kernel
theorem dX12_makeReport_212 : decode cX12_makeReport 212 = .ok (.iconst 2, 1) := by decide +kernel
theorem dX12_makeReport_213 : decode cX12_makeReport 213 = .ok (.dup2, 1) := by decide +kernel
theorem dX12_makeReport_214 : decode cX12_makeReport 214 = .ok (.laload, 1) := by decide +kernel
theorem dX12_makeReport_215 : decode cX12_makeReport 215 = .ok (.aload_n 0, 1) := by decide +kernel
theorem dX12_makeReport_216 : decode cX12_makeReport 216 = .ok (.iload_n 2, 1) := by decide +kernel
theorem dX12_makeReport_217 : decode cX12_makeReport 217 = .ok (.iload 6, 2) := by decide +kernel
theorem dX12_makeReport_219 : decode cX12_makeReport 219 = .ok (.invokevirtual 249, 3) := by decide +kernel
theorem dX12_makeReport_222 : decode cX12_makeReport 222 = .ok (.ifCond .eq 7, 3) := by decide +kernel
theorem dX12_makeReport_225 : decode cX12_makeReport 225 = .ok (.lconst 1, 1) := by decide +kernel
theorem dX12_makeReport_226 : decode cX12_makeReport 226 = .ok (.goto 4, 3) := by decide +kernel
theorem dX12_makeReport_229 : decode cX12_makeReport 229 = .ok (.lconst 0, 1) := by decide +kernel
theorem dX12_makeReport_230 : decode cX12_makeReport 230 = .ok (.ladd, 1) := by decide +kernel
theorem dX12_makeReport_231 : decode cX12_makeReport 231 = .ok (.lastore, 1) := by decide +kernel
theorem dX12_makeReport_232 : decode cX12_makeReport 232 = .ok (.aload_n 0, 1) := by decide +kernel
theorem dX12_makeReport_233 : decode cX12_makeReport 233 = .ok (.getfield 93, 3) := by decide +kernel
theorem dX12_makeReport_236 : decode cX12_makeReport 236 = .ok (.iconst 5, 1) := by decide +kernel
theorem dX12_makeReport_237 : decode cX12_makeReport 237 = .ok (.dup2, 1) := by decide +kernel
theorem dX12_makeReport_238 : decode cX12_makeReport 238 = .ok (.laload, 1) := by decide +kernel
theorem dX12_makeReport_239 : decode cX12_makeReport 239 = .ok (.lload 7, 2) := by decide +kernel
theorem dX12_makeReport_241 : decode cX12_makeReport 241 = .ok (.ladd, 1) := by decide +kernel
theorem dX12_makeReport_242 : decode cX12_makeReport 242 = .ok (.lastore, 1) := by decide +kernel
theorem dX12_makeReport_243 : decode cX12_makeReport 243 = .ok (.iload 5, 2) := by decide +kernel
theorem dX12_makeReport_245 : decode cX12_makeReport 245 = .ok (.bipush (-9), 2) := by decide +kernel
theorem dX12_makeReport_247 : decode cX12_makeReport 247 = .ok (.if_icmp .eq 48, 3) := by decide +kernel
theorem dX12_makeReport_250 : decode cX12_makeReport 250 = .ok (.iload 6, 2) := by decide +kernel
theorem dX12_makeReport_252 : decode cX12_makeReport 252 = .ok (.iload 5, 2) := by decide +kernel
theorem dX12_makeReport_254 : decode cX12_makeReport 254 = .ok (.isub, 1) := by decide +kernel
theorem dX12_makeReport_255 : decode cX12_makeReport 255 = .ok (.aload_n 0, 1) := by decide +kernel
theorem dX12_makeReport_256 : decode cX12_makeReport 256 = .ok (.getfield 53, 3) := by decide +kernel
theorem dX12_makeReport_259 : decode cX12_makeReport 259 = .ok (.iload_n 2, 1) := by decide +kernel
theorem dX12_makeReport_260 : decode cX12_makeReport 260 = .ok (.iaload, 1) := by decide +kernel
theorem dX12_makeReport_261 : decode cX12_makeReport 261 = .ok (.if_icmp .ne 34, 3) := by decide +kernel
theorem dX12_makeReport_264 : decode cX12_makeReport 264 = .ok (.aload_n 0, 1) := by decide +kernel
theorem dX12_makeReport_265 : decode cX12_makeReport 265 = .ok (.getfield 93, 3) := by decide +kernel
theorem dX12_makeReport_268 : decode cX12_makeReport 268 = .ok (.bipush 6, 2) := by decide +kernel
theorem dX12_makeReport_270 : decode cX12_makeReport 270 = .ok (.dup2, 1) := by decide +kernel
theorem dX12_makeReport_271 : decode cX12_makeReport 271 = .ok (.laload, 1) := by decide +kernel
theorem dX12_makeReport_272 : decode cX12_makeReport 272 = .ok (.lload 7, 2) := by decide +kernel
theorem dX12_makeReport_274 : decode cX12_makeReport 274 = .ok (.aload_n 0, 1) := by decide +kernel
theorem dX12_makeReport_275 : decode cX12_makeReport 275 = .ok (.iload_n 2, 1) := by decide +kernel
theorem dX12_makeReport_276 : decode cX12_makeReport 276 = .ok (.iload 5, 2) := by decide +kernel
theorem dX12_makeReport_278 : decode cX12_makeReport 278 = .ok (.invokevirtual 212, 3) := by decide +kernel
theorem dX12_makeReport_281 : decode cX12_makeReport 281 = .ok (.ladd, 1) := by decide +kernel
theorem dX12_makeReport_282 : decode cX12_makeReport 282 = .ok (.aload_n 0, 1) := by decide +kernel
theorem dX12_makeReport_283 : decode cX12_makeReport 283 = .ok (.getfield 53, 3) := by decide +kernel
theorem dX12_makeReport_286 : decode cX12_makeReport 286 = .ok (.iload_n 2, 1) := by decide +kernel
theorem dX12_makeReport_287 : decode cX12_makeReport 287 = .ok (.iaload, 1) := by decide +kernel
theorem dX12_makeReport_288 : decode cX12_makeReport 288 = .ok (.i2l, 1) := by decide +kernel
theorem dX12_makeReport_289 : decode cX12_makeReport 289 = .ok (.lmul, 1) := by decide +kernel
theorem dX12_makeReport_290 : decode cX12_makeReport 290 = .ok (.ladd, 1) := by decide +kernel
theorem dX12_makeReport_291 : decode cX12_makeReport 291 = .ok (.lastore, 1) := by decide +kernel
theorem dX12_makeReport_292 : decode cX12_makeReport 292 = .ok (.goto 21, 3) := by decide +kernel
theorem dX12_makeReport_295 : decode cX12_makeReport 295 = .ok (.iload 5, 2) := by decide +kernel
theorem dX12_makeReport_297 : decode cX12_makeReport 297 = .ok (.bipush (-9), 2) := by decide +kernel
theorem dX12_makeReport_299 : decode cX12_makeReport 299 = .ok (.if_icmp .eq 14, 3) := by decide +kernel
theorem dX12_makeReport_302 : decode cX12_makeReport 302 = .ok (.aload_n 0, 1) := by decide +kernel
theorem dX12_makeReport_303 : decode cX12_makeReport 303 = .ok (.getfield 93, 3) := by decide +kernel
theorem dX12_makeReport_306 : decode cX12_makeReport 306 = .ok (.bipush 7, 2) := by decide +kernel
theorem dX12_makeReport_308 : decode cX12_makeReport 308 = .ok (.dup2, 1) := by decide +kernel
theorem dX12_makeReport_309 : decode cX12_makeReport 309 = .ok (.laload, 1) := by decide +kernel
theorem dX12_makeReport_310 : decode cX12_makeReport 310 = .ok (.lconst 1, 1) := by decide +kernel
theorem dX12_makeReport_311 : decode cX12_makeReport 311 = .ok (.ladd, 1) := by decide +kernel
theorem dX12_makeReport_312 : decode cX12_makeReport 312 = .ok (.lastore, 1) := by decide +kernel
theorem dX12_makeReport_313 : decode cX12_makeReport 313 = .ok (.iload 6, 2) := by decide +kernel
theorem dX12_makeReport_315 : decode cX12_makeReport 315 = .ok (.istore 5, 2) := by decide +kernel
theorem dX12_makeReport_317 : decode cX12_makeReport 317 = .ok (.iinc 6 1, 3) := by decide +kernel
theorem dX12_makeReport_320 : decode cX12_makeReport 320 = .ok (.goto (-256), 3) := by decide +kernel
theorem dX12_makeReport_323 : decode cX12_makeReport 323 = .ok (.return_, 1) := by decide +kernel
theorem dX12_report_0 : decode cX12_report 0 = .ok (.iload_n 1, 1) := by decide +kernel
theorem dX12_report_1 : decode cX12_report 1 = .ok (.ifCond .lt 31, 3) := by decide +kernel
theorem dX12_report_4 : decode cX12_report 4 = .ok (.iload_n 1, 1) := by decide +kernel
theorem dX12_report_5 : decode cX12_report 5 = .ok (.aload_n 0, 1) := by decide +kernel
theorem dX12_report_6 : decode cX12_report 6 = .ok (.getfield 187, 3) := by decide +kernel
theorem dX12_report_9 : decode cX12_report 9 = .ok (.if_icmp .ge 23, 3) := by decide +kernel
theorem dX12_report_12 : decode cX12_report 12 = .ok (.aload_n 0, 1) := by decide +kernel
theorem dX12_report_13 : decode cX12_report 13 = .ok (.iload_n 2, 1) := by decide +kernel
theorem dX12_report_14 : decode cX12_report 14 = .ok (.invokevirtual 231, 3) := by decide +kernel
theorem dX12_report_17 : decode cX12_report 17 = .ok (.ifCond .eq 15, 3) := by decide +kernel
theorem dX12_report_20 : decode cX12_report 20 = .ok (.iload_n 3, 1) := by decide +kernel
theorem dX12_report_21 : decode cX12_report 21 = .ok (.i2l, 1) := by decide +kernel
theorem dX12_report_22 : decode cX12_report 22 = .ok (.lconst 0, 1) := by decide +kernel
theorem dX12_report_23 : decode cX12_report 23 = .ok (.ldc2_w 252, 3) := by decide +kernel
theorem dX12_report_26 : decode cX12_report 26 = .ok (.invokestatic 110, 3) := by decide +kernel
theorem dX12_report_29 : decode cX12_report 29 = .ok (.ifCond .ne 7, 3) := by decide +kernel
theorem dX12_report_32 : decode cX12_report 32 = .ok (.ldc2_w 106, 3) := by decide +kernel
theorem dX12_report_35 : decode cX12_report 35 = .ok (.lreturn, 1) := by decide +kernel
theorem dX12_report_36 : decode cX12_report 36 = .ok (.aload_n 0, 1) := by decide +kernel
theorem dX12_report_37 : decode cX12_report 37 = .ok (.iload_n 1, 1) := by decide +kernel
theorem dX12_report_38 : decode cX12_report 38 = .ok (.iload_n 2, 1) := by decide +kernel
theorem dX12_report_39 : decode cX12_report 39 = .ok (.invokevirtual 254, 3) := by decide +kernel
theorem dX12_report_42 : decode cX12_report 42 = .ok (.aload_n 0, 1) := by decide +kernel
theorem dX12_report_43 : decode cX12_report 43 = .ok (.getfield 93, 3) := by decide +kernel
theorem dX12_report_46 : decode cX12_report 46 = .ok (.iload_n 3, 1) := by decide +kernel
theorem dX12_report_47 : decode cX12_report 47 = .ok (.laload, 1) := by decide +kernel
theorem dX12_report_48 : decode cX12_report 48 = .ok (.lreturn, 1) := by decide +kernel
theorem dX12_correct_0 : decode cX12_correct 0 = .ok (.aload_n 0, 1) := by decide +kernel
theorem dX12_correct_1 : decode cX12_correct 1 = .ok (.iload_n 1, 1) := by decide +kernel
theorem dX12_correct_2 : decode cX12_correct 2 = .ok (.invokevirtual 231, 3) := by decide +kernel
theorem dX12_correct_5 : decode cX12_correct 5 = .ok (.ifCond .ne 5, 3) := by decide +kernel
theorem dX12_correct_8 : decode cX12_correct 8 = .ok (.iconst (-1), 1) := by decide +kernel
theorem dX12_correct_9 : decode cX12_correct 9 = .ok (.ireturn, 1) := by decide +kernel
theorem dX12_correct_10 : decode cX12_correct 10 = .ok (.iload_n 2, 1) := by decide +kernel
theorem dX12_correct_11 : decode cX12_correct 11 = .ok (.i2l, 1) := by decide +kernel
theorem dX12_correct_12 : decode cX12_correct 12 = .ok (.lconst 0, 1) := by decide +kernel
theorem dX12_correct_13 : decode cX12_correct 13 = .ok (.ldc2_w 238, 3) := by decide +kernel
theorem dX12_correct_16 : decode cX12_correct 16 = .ok (.invokestatic 110, 3) := by decide +kernel
theorem dX12_correct_19 : decode cX12_correct 19 = .ok (.ifCond .eq 30, 3) := by decide +kernel
theorem dX12_correct_22 : decode cX12_correct 22 = .ok (.iload_n 3, 1) := by decide +kernel
theorem dX12_correct_23 : decode cX12_correct 23 = .ok (.i2l, 1) := by decide +kernel
theorem dX12_correct_24 : decode cX12_correct 24 = .ok (.lconst 1, 1) := by decide +kernel
theorem dX12_correct_25 : decode cX12_correct 25 = .ok (.ldc2_w 121, 3) := by decide +kernel
theorem dX12_correct_28 : decode cX12_correct 28 = .ok (.invokestatic 110, 3) := by decide +kernel
theorem dX12_correct_31 : decode cX12_correct 31 = .ok (.ifCond .eq 18, 3) := by decide +kernel
theorem dX12_correct_34 : decode cX12_correct 34 = .ok (.iload 4, 2) := by decide +kernel
theorem dX12_correct_36 : decode cX12_correct 36 = .ok (.i2l, 1) := by decide +kernel
theorem dX12_correct_37 : decode cX12_correct 37 = .ok (.ldc2_w 258, 3) := by decide +kernel
theorem dX12_correct_40 : decode cX12_correct 40 = .ok (.ldc2_w 116, 3) := by decide +kernel
theorem dX12_correct_43 : decode cX12_correct 43 = .ok (.invokestatic 110, 3) := by decide +kernel
theorem dX12_correct_46 : decode cX12_correct 46 = .ok (.ifCond .ne 6, 3) := by decide +kernel
theorem dX12_correct_49 : decode cX12_correct 49 = .ok (.bipush (-2), 2) := by decide +kernel
theorem dX12_correct_51 : decode cX12_correct 51 = .ok (.ireturn, 1) := by decide +kernel
theorem dX12_correct_52 : decode cX12_correct 52 = .ok (.aload_n 0, 1) := by decide +kernel
theorem dX12_correct_53 : decode cX12_correct 53 = .ok (.getfield 222, 3) := by decide +kernel
theorem dX12_correct_56 : decode cX12_correct 56 = .ok (.bipush 20, 2) := by decide +kernel
theorem dX12_correct_58 : decode cX12_correct 58 = .ok (.if_icmp .ne 6, 3) := by decide +kernel
theorem dX12_correct_61 : decode cX12_correct 61 = .ok (.bipush (-4), 2) := by decide +kernel
theorem dX12_correct_63 : decode cX12_correct 63 = .ok (.ireturn, 1) := by decide +kernel
theorem dX12_correct_64 : decode cX12_correct 64 = .ok (.iconst 0, 1) := by decide +kernel
theorem dX12_correct_65 : decode cX12_correct 65 = .ok (.istore 5, 2) := by decide +kernel
theorem dX12_correct_67 : decode cX12_correct 67 = .ok (.iload 5, 2) := by decide +kernel
theorem dX12_correct_69 : decode cX12_correct 69 = .ok (.aload_n 0, 1) := by decide +kernel
theorem dX12_correct_70 : decode cX12_correct 70 = .ok (.getfield 187, 3) := by decide +kernel
theorem dX12_correct_73 : decode cX12_correct 73 = .ok (.if_icmp .ge 52, 3) := by decide +kernel
theorem dX12_correct_76 : decode cX12_correct 76 = .ok (.aload_n 0, 1) := by decide +kernel
theorem dX12_correct_77 : decode cX12_correct 77 = .ok (.iload 5, 2) := by decide +kernel
theorem dX12_correct_79 : decode cX12_correct 79 = .ok (.iload_n 1, 1) := by decide +kernel
theorem dX12_correct_80 : decode cX12_correct 80 = .ok (.invokevirtual 254, 3) := by decide +kernel
theorem dX12_correct_83 : decode cX12_correct 83 = .ok (.iconst 0, 1) := by decide +kernel
theorem dX12_correct_84 : decode cX12_correct 84 = .ok (.istore 6, 2) := by decide +kernel
theorem dX12_correct_86 : decode cX12_correct 86 = .ok (.iload 6, 2) := by decide +kernel
theorem dX12_correct_88 : decode cX12_correct 88 = .ok (.bipush 8, 2) := by decide +kernel
theorem dX12_correct_90 : decode cX12_correct 90 = .ok (.if_icmp .ge 29, 3) := by decide +kernel
theorem dX12_correct_93 : decode cX12_correct 93 = .ok (.aload_n 0, 1) := by decide +kernel
theorem dX12_correct_94 : decode cX12_correct 94 = .ok (.getfield 100, 3) := by decide +kernel
theorem dX12_correct_97 : decode cX12_correct 97 = .ok (.bipush 8, 2) := by decide +kernel
theorem dX12_correct_99 : decode cX12_correct 99 = .ok (.iload 5, 2) := by decide +kernel
theorem dX12_correct_101 : decode cX12_correct 101 = .ok (.imul, 1) := by decide +kernel
theorem dX12_correct_102 : decode cX12_correct 102 = .ok (.iload 6, 2) := by decide +kernel
theorem dX12_correct_104 : decode cX12_correct 104 = .ok (.iadd, 1) := by decide +kernel
theorem dX12_correct_105 : decode cX12_correct 105 = .ok (.aload_n 0, 1) := by decide +kernel
theorem dX12_correct_106 : decode cX12_correct 106 = .ok (.getfield 93, 3) := by decide +kernel
theorem dX12_correct_109 : decode cX12_correct 109 = .ok (.iload 6, 2) := by decide +kernel
theorem dX12_correct_111 : decode cX12_correct 111 = .ok (.laload, 1) := by decide +kernel
theorem dX12_correct_112 : decode cX12_correct 112 = .ok (.lastore, 1) := by decide +kernel
theorem dX12_correct_113 : decode cX12_correct 113 = .ok (.iinc 6 1, 3) := by decide +kernel
theorem dX12_correct_116 : decode cX12_correct 116 = .ok (.goto (-30), 3) := by decide +kernel
theorem dX12_correct_119 : decode cX12_correct 119 = .ok (.iinc 5 1, 3) := by decide +kernel
theorem dX12_correct_122 : decode cX12_correct 122 = .ok (.goto (-55), 3) := by decide +kernel
theorem dX12_correct_125 : decode cX12_correct 125 = .ok (.aload_n 0, 1) := by decide +kernel
theorem dX12_correct_126 : decode cX12_correct 126 = .ok (.getfield 81, 3) := by decide +kernel
theorem dX12_correct_129 : decode cX12_correct 129 = .ok (.aload_n 0, 1) := by decide +kernel
theorem dX12_correct_130 : decode cX12_correct 130 = .ok (.getfield 222, 3) := by decide +kernel
theorem dX12_correct_133 : decode cX12_correct 133 = .ok (.iload_n 1, 1) := by decide +kernel
theorem dX12_correct_134 : decode cX12_correct 134 = .ok (.iastore, 1) := by decide +kernel
theorem dX12_correct_135 : decode cX12_correct 135 = .ok (.aload_n 0, 1) := by decide +kernel
theorem dX12_correct_136 : decode cX12_correct 136 = .ok (.getfield 84, 3) := by decide +kernel
theorem dX12_correct_139 : decode cX12_correct 139 = .ok (.aload_n 0, 1) := by decide +kernel
theorem dX12_correct_140 : decode cX12_correct 140 = .ok (.getfield 222, 3) := by decide +kernel
theorem dX12_correct_143 : decode cX12_correct 143 = .ok (.iload_n 2, 1) := by decide +kernel
theorem dX12_correct_144 : decode cX12_correct 144 = .ok (.iastore, 1) := by decide +kernel
theorem dX12_correct_145 : decode cX12_correct 145 = .ok (.aload_n 0, 1) := by decide +kernel
theorem dX12_correct_146 : decode cX12_correct 146 = .ok (.getfield 87, 3) := by decide +kernel
theorem dX12_correct_149 : decode cX12_correct 149 = .ok (.aload_n 0, 1) := by decide +kernel
theorem dX12_correct_150 : decode cX12_correct 150 = .ok (.getfield 222, 3) := by decide +kernel
theorem dX12_correct_153 : decode cX12_correct 153 = .ok (.iload_n 3, 1) := by decide +kernel
theorem dX12_correct_154 : decode cX12_correct 154 = .ok (.iastore, 1) := by decide +kernel
theorem dX12_correct_155 : decode cX12_correct 155 = .ok (.aload_n 0, 1) := by decide +kernel
theorem dX12_correct_156 : decode cX12_correct 156 = .ok (.getfield 90, 3) := by decide +kernel
theorem dX12_correct_159 : decode cX12_correct 159 = .ok (.aload_n 0, 1) := by decide +kernel
theorem dX12_correct_160 : decode cX12_correct 160 = .ok (.getfield 222, 3) := by decide +kernel
theorem dX12_correct_163 : decode cX12_correct 163 = .ok (.iload 4, 2) := by decide +kernel
theorem dX12_correct_165 : decode cX12_correct 165 = .ok (.iastore, 1) := by decide +kernel
theorem dX12_correct_166 : decode cX12_correct 166 = .ok (.aload_n 0, 1) := by decide +kernel
theorem dX12_correct_167 : decode cX12_correct 167 = .ok (.dup, 1) := by decide +kernel
theorem dX12_correct_168 : decode cX12_correct 168 = .ok (.getfield 222, 3) := by decide +kernel
theorem dX12_correct_171 : decode cX12_correct 171 = .ok (.iconst 1, 1) := by decide +kernel
theorem dX12_correct_172 : decode cX12_correct 172 = .ok (.iadd, 1) := by decide +kernel
theorem dX12_correct_173 : decode cX12_correct 173 = .ok (.putfield 222, 3) := by decide +kernel
theorem dX12_correct_176 : decode cX12_correct 176 = .ok (.aload_n 0, 1) := by decide +kernel
theorem dX12_correct_177 : decode cX12_correct 177 = .ok (.iconst 0, 1) := by decide +kernel
theorem dX12_correct_178 : decode cX12_correct 178 = .ok (.putfield 260, 3) := by decide +kernel
theorem dX12_correct_181 : decode cX12_correct 181 = .ok (.iconst 0, 1) := by decide +kernel
theorem dX12_correct_182 : decode cX12_correct 182 = .ok (.istore 5, 2) := by decide +kernel
theorem dX12_correct_184 : decode cX12_correct 184 = .ok (.iload 5, 2) := by decide +kernel
theorem dX12_correct_186 : decode cX12_correct 186 = .ok (.aload_n 0, 1) := by decide +kernel
theorem dX12_correct_187 : decode cX12_correct 187 = .ok (.getfield 187, 3) := by decide +kernel
theorem dX12_correct_190 : decode cX12_correct 190 = .ok (.if_icmp .ge 88, 3) := by decide +kernel
theorem dX12_correct_193 : decode cX12_correct 193 = .ok (.aload_n 0, 1) := by decide +kernel
theorem dX12_correct_194 : decode cX12_correct 194 = .ok (.iload 5, 2) := by decide +kernel
theorem dX12_correct_196 : decode cX12_correct 196 = .ok (.iload_n 1, 1) := by decide +kernel
theorem dX12_correct_197 : decode cX12_correct 197 = .ok (.invokevirtual 254, 3) := by decide +kernel
theorem dX12_correct_200 : decode cX12_correct 200 = .ok (.iconst 0, 1) := by decide +kernel
theorem dX12_correct_201 : decode cX12_correct 201 = .ok (.istore 6, 2) := by decide +kernel
theorem dX12_correct_203 : decode cX12_correct 203 = .ok (.iload 6, 2) := by decide +kernel
theorem dX12_correct_205 : decode cX12_correct 205 = .ok (.bipush 8, 2) := by decide +kernel
theorem dX12_correct_207 : decode cX12_correct 207 = .ok (.if_icmp .ge 65, 3) := by decide +kernel
theorem dX12_correct_210 : decode cX12_correct 210 = .ok (.aload_n 0, 1) := by decide +kernel
theorem dX12_correct_211 : decode cX12_correct 211 = .ok (.getfield 100, 3) := by decide +kernel
theorem dX12_correct_214 : decode cX12_correct 214 = .ok (.bipush 8, 2) := by decide +kernel
theorem dX12_correct_216 : decode cX12_correct 216 = .ok (.iload 5, 2) := by decide +kernel
theorem dX12_correct_218 : decode cX12_correct 218 = .ok (.imul, 1) := by decide +kernel
theorem dX12_correct_219 : decode cX12_correct 219 = .ok (.iload 6, 2) := by decide +kernel
theorem dX12_correct_221 : decode cX12_correct 221 = .ok (.iadd, 1) := by decide +kernel
theorem dX12_correct_222 : decode cX12_correct 222 = .ok (.laload, 1) := by decide +kernel
theorem dX12_correct_223 : decode cX12_correct 223 = .ok (.aload_n 0, 1) := by decide +kernel
theorem dX12_correct_224 : decode cX12_correct 224 = .ok (.getfield 93, 3) := by decide +kernel
theorem dX12_correct_227 : decode cX12_correct 227 = .ok (.iload 6, 2) := by decide +kernel
theorem dX12_correct_229 : decode cX12_correct 229 = .ok (.laload, 1) := by decide +kernel
theorem dX12_correct_230 : decode cX12_correct 230 = .ok (.lcmp, 1) := by decide +kernel
theorem dX12_correct_231 : decode cX12_correct 231 = .ok (.ifCond .eq 35, 3) := by decide +kernel
theorem dX12_correct_234 : decode cX12_correct 234 = .ok (.aload_n 0, 1) := by decide +kernel
theorem dX12_correct_235 : decode cX12_correct 235 = .ok (.getfield 97, 3) := by decide +kernel
theorem dX12_correct_238 : decode cX12_correct 238 = .ok (.aload_n 0, 1) := by decide +kernel
theorem dX12_correct_239 : decode cX12_correct 239 = .ok (.getfield 260, 3) := by decide +kernel
theorem dX12_correct_242 : decode cX12_correct 242 = .ok (.bipush 80, 2) := by decide +kernel
theorem dX12_correct_244 : decode cX12_correct 244 = .ok (.iload 5, 2) := by decide +kernel
theorem dX12_correct_246 : decode cX12_correct 246 = .ok (.imul, 1) := by decide +kernel
theorem dX12_correct_247 : decode cX12_correct 247 = .ok (.bipush 10, 2) := by decide +kernel
theorem dX12_correct_249 : decode cX12_correct 249 = .ok (.iload_n 1, 1) := by decide +kernel
theorem dX12_correct_250 : decode cX12_correct 250 = .ok (.imul, 1) := by decide +kernel
theorem dX12_correct_251 : decode cX12_correct 251 = .ok (.iadd, 1) := by decide +kernel
theorem dX12_correct_252 : decode cX12_correct 252 = .ok (.iload 6, 2) := by decide +kernel
theorem dX12_correct_254 : decode cX12_correct 254 = .ok (.iadd, 1) := by decide +kernel
theorem dX12_correct_255 : decode cX12_correct 255 = .ok (.iastore, 1) := by decide +kernel
theorem dX12_correct_256 : decode cX12_correct 256 = .ok (.aload_n 0, 1) := by decide +kernel
theorem dX12_correct_257 : decode cX12_correct 257 = .ok (.dup, 1) := by decide +kernel
theorem dX12_correct_258 : decode cX12_correct 258 = .ok (.getfield 260, 3) := by decide +kernel
theorem dX12_correct_261 : decode cX12_correct 261 = .ok (.iconst 1, 1) := by decide +kernel
theorem dX12_correct_262 : decode cX12_correct 262 = .ok (.iadd, 1) := by decide +kernel
theorem dX12_correct_263 : decode cX12_correct 263 = .ok (.putfield 260, 3) := by decide +kernel
theorem dX12_correct_266 : decode cX12_correct 266 = .ok (.iinc 6 1, 3) := by decide +kernel
theorem dX12_correct_269 : decode cX12_correct 269 = .ok (.goto (-66), 3) := by decide +kernel
theorem dX12_correct_272 : decode cX12_correct 272 = .ok (.iinc 5 1, 3) := by decide +kernel
theorem dX12_correct_275 : decode cX12_correct 275 = .ok (.goto (-91), 3) := by decide +kernel
theorem dX12_correct_278 : decode cX12_correct 278 = .ok (.aload_n 0, 1) := by decide +kernel
theorem dX12_correct_279 : decode cX12_correct 279 = .ok (.getfield 260, 3) := by decide +kernel
theorem dX12_correct_282 : decode cX12_correct 282 = .ok (.ireturn, 1) := by decide +kernel
theorem dX12_other_0 : decode cX12_other 0 = .ok (.iload_n 1, 1) := by decide +kernel
theorem dX12_other_1 : decode cX12_other 1 = .ok (.ifCond .lt 20, 3) := by decide +kernel
theorem dX12_other_4 : decode cX12_other 4 = .ok (.iload_n 1, 1) := by decide +kernel
theorem dX12_other_5 : decode cX12_other 5 = .ok (.aload_n 0, 1) := by decide +kernel
theorem dX12_other_6 : decode cX12_other 6 = .ok (.getfield 260, 3) := by decide +kernel
theorem dX12_other_9 : decode cX12_other 9 = .ok (.if_icmp .ge 12, 3) := by decide +kernel
theorem dX12_other_12 : decode cX12_other 12 = .ok (.aload_n 0, 1) := by decide +kernel
theorem dX12_other_13 : decode cX12_other 13 = .ok (.getfield 97, 3) := by decide +kernel
theorem dX12_other_16 : decode cX12_other 16 = .ok (.iload_n 1, 1) := by decide +kernel
theorem dX12_other_17 : decode cX12_other 17 = .ok (.iaload, 1) := by decide +kernel
theorem dX12_other_18 : decode cX12_other 18 = .ok (.goto 4, 3) := by decide +kernel
theorem dX12_other_21 : decode cX12_other 21 = .ok (.iconst (-1), 1) := by decide +kernel
theorem dX12_other_22 : decode cX12_other 22 = .ok (.ireturn, 1) := by decide +kernel
theorem dX12_makeLaw_0 : decode cX12_makeLaw 0 = .ok (.aload_n 0, 1) := by decide +kernel
theorem dX12_makeLaw_1 : decode cX12_makeLaw 1 = .ok (.lconst 0, 1) := by decide +kernel
theorem dX12_makeLaw_2 : decode cX12_makeLaw 2 = .ok (.putfield 263, 3) := by decide +kernel
theorem dX12_makeLaw_5 : decode cX12_makeLaw 5 = .ok (.aload_n 0, 1) := by decide +kernel
theorem dX12_makeLaw_6 : decode cX12_makeLaw 6 = .ok (.lconst 0, 1) := by decide +kernel
theorem dX12_makeLaw_7 : decode cX12_makeLaw 7 = .ok (.putfield 267, 3) := by decide +kernel
theorem dX12_makeLaw_10 : decode cX12_makeLaw 10 = .ok (.aload_n 0, 1) := by decide +kernel
theorem dX12_makeLaw_11 : decode cX12_makeLaw 11 = .ok (.lconst 0, 1) := by decide +kernel
theorem dX12_makeLaw_12 : decode cX12_makeLaw 12 = .ok (.putfield 270, 3) := by decide +kernel
theorem dX12_makeLaw_15 : decode cX12_makeLaw 15 = .ok (.lconst 0, 1) := by decide +kernel
theorem dX12_makeLaw_16 : decode cX12_makeLaw 16 = .ok (.lstore_n 2, 1) := by decide +kernel
theorem dX12_makeLaw_17 : decode cX12_makeLaw 17 = .ok (.lconst 0, 1) := by decide +kernel
theorem dX12_makeLaw_18 : decode cX12_makeLaw 18 = .ok (.lstore 4, 2) := by decide +kernel
theorem dX12_makeLaw_20 : decode cX12_makeLaw 20 = .ok (.lconst 0, 1) := by decide +kernel
theorem dX12_makeLaw_21 : decode cX12_makeLaw 21 = .ok (.lstore 6, 2) := by decide +kernel
theorem dX12_makeLaw_23 : decode cX12_makeLaw 23 = .ok (.lconst 0, 1) := by decide +kernel
theorem dX12_makeLaw_24 : decode cX12_makeLaw 24 = .ok (.lstore 8, 2) := by decide +kernel
theorem dX12_makeLaw_26 : decode cX12_makeLaw 26 = .ok (.iconst 0, 1) := by decide +kernel
theorem dX12_makeLaw_27 : decode cX12_makeLaw 27 = .ok (.istore 10, 2) := by decide +kernel
theorem dX12_makeLaw_29 : decode cX12_makeLaw 29 = .ok (.iload 10, 2) := by decide +kernel
theorem dX12_makeLaw_31 : decode cX12_makeLaw 31 = .ok (.aload_n 0, 1) := by decide +kernel
theorem dX12_makeLaw_32 : decode cX12_makeLaw 32 = .ok (.getfield 190, 3) := by decide +kernel
theorem dX12_makeLaw_35 : decode cX12_makeLaw 35 = .ok (.if_icmp .gt 163, 3) := by decide +kernel
theorem dX12_makeLaw_38 : decode cX12_makeLaw 38 = .ok (.aload_n 0, 1) := by decide +kernel
theorem dX12_makeLaw_39 : decode cX12_makeLaw 39 = .ok (.iload_n 1, 1) := by decide +kernel
theorem dX12_makeLaw_40 : decode cX12_makeLaw 40 = .ok (.iload 10, 2) := by decide +kernel
theorem dX12_makeLaw_42 : decode cX12_makeLaw 42 = .ok (.invokevirtual 208, 3) := by decide +kernel
theorem dX12_makeLaw_45 : decode cX12_makeLaw 45 = .ok (.ifCond .eq 6, 3) := by decide +kernel
theorem dX12_makeLaw_48 : decode cX12_makeLaw 48 = .ok (.goto 136, 3) := by decide +kernel
theorem dX12_makeLaw_51 : decode cX12_makeLaw 51 = .ok (.aload_n 0, 1) := by decide +kernel
theorem dX12_makeLaw_52 : decode cX12_makeLaw 52 = .ok (.getfield 20, 3) := by decide +kernel
theorem dX12_makeLaw_55 : decode cX12_makeLaw 55 = .ok (.bipush 7, 2) := by decide +kernel
theorem dX12_makeLaw_57 : decode cX12_makeLaw 57 = .ok (.iload 10, 2) := by decide +kernel
theorem dX12_makeLaw_59 : decode cX12_makeLaw 59 = .ok (.aload_n 0, 1) := by decide +kernel
theorem dX12_makeLaw_60 : decode cX12_makeLaw 60 = .ok (.getfield 56, 3) := by decide +kernel
theorem dX12_makeLaw_63 : decode cX12_makeLaw 63 = .ok (.iload_n 1, 1) := by decide +kernel
theorem dX12_makeLaw_64 : decode cX12_makeLaw 64 = .ok (.iaload, 1) := by decide +kernel
theorem dX12_makeLaw_65 : decode cX12_makeLaw 65 = .ok (.isub, 1) := by decide +kernel
theorem dX12_makeLaw_66 : decode cX12_makeLaw 66 = .ok (.imul, 1) := by decide +kernel
theorem dX12_makeLaw_67 : decode cX12_makeLaw 67 = .ok (.iconst 5, 1) := by decide +kernel
theorem dX12_makeLaw_68 : decode cX12_makeLaw 68 = .ok (.iadd, 1) := by decide +kernel
theorem dX12_makeLaw_69 : decode cX12_makeLaw 69 = .ok (.iaload, 1) := by decide +kernel
theorem dX12_makeLaw_70 : decode cX12_makeLaw 70 = .ok (.i2l, 1) := by decide +kernel
theorem dX12_makeLaw_71 : decode cX12_makeLaw 71 = .ok (.lstore 11, 2) := by decide +kernel
theorem dX12_makeLaw_73 : decode cX12_makeLaw 73 = .ok (.aload_n 0, 1) := by decide +kernel
theorem dX12_makeLaw_74 : decode cX12_makeLaw 74 = .ok (.iload_n 1, 1) := by decide +kernel
theorem dX12_makeLaw_75 : decode cX12_makeLaw 75 = .ok (.iload 10, 2) := by decide +kernel
theorem dX12_makeLaw_77 : decode cX12_makeLaw 77 = .ok (.invokevirtual 212, 3) := by decide +kernel
theorem dX12_makeLaw_80 : decode cX12_makeLaw 80 = .ok (.lstore 13, 2) := by decide +kernel
theorem dX12_makeLaw_82 : decode cX12_makeLaw 82 = .ok (.aload_n 0, 1) := by decide +kernel
theorem dX12_makeLaw_83 : decode cX12_makeLaw 83 = .ok (.dup, 1) := by decide +kernel
theorem dX12_makeLaw_84 : decode cX12_makeLaw 84 = .ok (.getfield 263, 3) := by decide +kernel
theorem dX12_makeLaw_87 : decode cX12_makeLaw 87 = .ok (.lconst 1, 1) := by decide +kernel
theorem dX12_makeLaw_88 : decode cX12_makeLaw 88 = .ok (.ladd, 1) := by decide +kernel
theorem dX12_makeLaw_89 : decode cX12_makeLaw 89 = .ok (.putfield 263, 3) := by decide +kernel
theorem dX12_makeLaw_92 : decode cX12_makeLaw 92 = .ok (.lload_n 2, 1) := by decide +kernel
theorem dX12_makeLaw_93 : decode cX12_makeLaw 93 = .ok (.lload 11, 2) := by decide +kernel
theorem dX12_makeLaw_95 : decode cX12_makeLaw 95 = .ok (.ladd, 1) := by decide +kernel
theorem dX12_makeLaw_96 : decode cX12_makeLaw 96 = .ok (.lstore_n 2, 1) := by decide +kernel
theorem dX12_makeLaw_97 : decode cX12_makeLaw 97 = .ok (.lload 4, 2) := by decide +kernel
theorem dX12_makeLaw_99 : decode cX12_makeLaw 99 = .ok (.lload 13, 2) := by decide +kernel
theorem dX12_makeLaw_101 : decode cX12_makeLaw 101 = .ok (.ladd, 1) := by decide +kernel
theorem dX12_makeLaw_102 : decode cX12_makeLaw 102 = .ok (.lstore 4, 2) := by decide +kernel
theorem dX12_makeLaw_104 : decode cX12_makeLaw 104 = .ok (.lload 6, 2) := by decide +kernel
theorem dX12_makeLaw_106 : decode cX12_makeLaw 106 = .ok (.lload 11, 2) := by decide +kernel
theorem dX12_makeLaw_108 : decode cX12_makeLaw 108 = .ok (.lload 13, 2) := by decide +kernel
theorem dX12_makeLaw_110 : decode cX12_makeLaw 110 = .ok (.lmul, 1) := by decide +kernel
theorem dX12_makeLaw_111 : decode cX12_makeLaw 111 = .ok (.ladd, 1) := by decide +kernel
theorem dX12_makeLaw_112 : decode cX12_makeLaw 112 = .ok (.lstore 6, 2) := by decide +kernel
theorem dX12_makeLaw_114 : decode cX12_makeLaw 114 = .ok (.lload 8, 2) := by decide +kernel
theorem dX12_makeLaw_116 : decode cX12_makeLaw 116 = .ok (.lload 11, 2) := by decide +kernel
theorem dX12_makeLaw_118 : decode cX12_makeLaw 118 = .ok (.lload 11, 2) := by decide +kernel
theorem dX12_makeLaw_120 : decode cX12_makeLaw 120 = .ok (.lmul, 1) := by decide +kernel
theorem dX12_makeLaw_121 : decode cX12_makeLaw 121 = .ok (.ladd, 1) := by decide +kernel
theorem dX12_makeLaw_122 : decode cX12_makeLaw 122 = .ok (.lstore 8, 2) := by decide +kernel
theorem dX12_makeLaw_124 : decode cX12_makeLaw 124 = .ok (.aload_n 0, 1) := by decide +kernel
theorem dX12_makeLaw_125 : decode cX12_makeLaw 125 = .ok (.dup, 1) := by decide +kernel
theorem dX12_makeLaw_126 : decode cX12_makeLaw 126 = .ok (.getfield 267, 3) := by decide +kernel
theorem dX12_makeLaw_129 : decode cX12_makeLaw 129 = .ok (.lload 13, 2) := by decide +kernel
theorem dX12_makeLaw_131 : decode cX12_makeLaw 131 = .ok (.lload 11, 2) := by decide +kernel
theorem dX12_makeLaw_133 : decode cX12_makeLaw 133 = .ok (.lsub, 1) := by decide +kernel
theorem dX12_makeLaw_134 : decode cX12_makeLaw 134 = .ok (.ladd, 1) := by decide +kernel
theorem dX12_makeLaw_135 : decode cX12_makeLaw 135 = .ok (.putfield 267, 3) := by decide +kernel
theorem dX12_makeLaw_138 : decode cX12_makeLaw 138 = .ok (.lload 13, 2) := by decide +kernel
theorem dX12_makeLaw_140 : decode cX12_makeLaw 140 = .ok (.lload 11, 2) := by decide +kernel
theorem dX12_makeLaw_142 : decode cX12_makeLaw 142 = .ok (.lcmp, 1) := by decide +kernel
theorem dX12_makeLaw_143 : decode cX12_makeLaw 143 = .ok (.ifCond .ge 11, 3) := by decide +kernel
theorem dX12_makeLaw_146 : decode cX12_makeLaw 146 = .ok (.lload 11, 2) := by decide +kernel
theorem dX12_makeLaw_148 : decode cX12_makeLaw 148 = .ok (.lload 13, 2) := by decide +kernel
theorem dX12_makeLaw_150 : decode cX12_makeLaw 150 = .ok (.lsub, 1) := by decide +kernel
theorem dX12_makeLaw_151 : decode cX12_makeLaw 151 = .ok (.goto 8, 3) := by decide +kernel
theorem dX12_makeLaw_154 : decode cX12_makeLaw 154 = .ok (.lload 13, 2) := by decide +kernel
theorem dX12_makeLaw_156 : decode cX12_makeLaw 156 = .ok (.lload 11, 2) := by decide +kernel
theorem dX12_makeLaw_158 : decode cX12_makeLaw 158 = .ok (.lsub, 1) := by decide +kernel
theorem dX12_makeLaw_159 : decode cX12_makeLaw 159 = .ok (.lstore 15, 2) := by decide +kernel
theorem dX12_makeLaw_161 : decode cX12_makeLaw 161 = .ok (.aload_n 0, 1) := by decide +kernel
theorem dX12_makeLaw_162 : decode cX12_makeLaw 162 = .ok (.lload 15, 2) := by decide +kernel
theorem dX12_makeLaw_164 : decode cX12_makeLaw 164 = .ok (.aload_n 0, 1) := by decide +kernel
theorem dX12_makeLaw_165 : decode cX12_makeLaw 165 = .ok (.getfield 270, 3) := by decide +kernel
theorem dX12_makeLaw_168 : decode cX12_makeLaw 168 = .ok (.lcmp, 1) := by decide +kernel
theorem dX12_makeLaw_169 : decode cX12_makeLaw 169 = .ok (.ifCond .le 8, 3) := by decide +kernel
theorem dX12_makeLaw_172 : decode cX12_makeLaw 172 = .ok (.lload 15, 2) := by decide +kernel
theorem dX12_makeLaw_174 : decode cX12_makeLaw 174 = .ok (.goto 7, 3) := by decide +kernel
theorem dX12_makeLaw_177 : decode cX12_makeLaw 177 = .ok (.aload_n 0, 1) := by decide +kernel
theorem dX12_makeLaw_178 : decode cX12_makeLaw 178 = .ok (.getfield 270, 3) := by decide +kernel
theorem dX12_makeLaw_181 : decode cX12_makeLaw 181 = .ok (.putfield 270, 3) := by decide +kernel
theorem dX12_makeLaw_184 : decode cX12_makeLaw 184 = .ok (.iload 10, 2) := by decide +kernel
theorem dX12_makeLaw_186 : decode cX12_makeLaw 186 = .ok (.aload_n 0, 1) := by decide +kernel
theorem dX12_makeLaw_187 : decode cX12_makeLaw 187 = .ok (.getfield 53, 3) := by decide +kernel
theorem dX12_makeLaw_190 : decode cX12_makeLaw 190 = .ok (.iload_n 1, 1) := by decide +kernel
theorem dX12_makeLaw_191 : decode cX12_makeLaw 191 = .ok (.iaload, 1) := by decide +kernel
theorem dX12_makeLaw_192 : decode cX12_makeLaw 192 = .ok (.iadd, 1) := by decide +kernel
theorem dX12_makeLaw_193 : decode cX12_makeLaw 193 = .ok (.istore 10, 2) := by decide +kernel
theorem dX12_makeLaw_195 : decode cX12_makeLaw 195 = .ok (.goto (-166), 3) := by decide +kernel
theorem dX12_makeLaw_198 : decode cX12_makeLaw 198 = .ok (.aload_n 0, 1) := by decide +kernel
theorem dX12_makeLaw_199 : decode cX12_makeLaw 199 = .ok (.aload_n 0, 1) := by decide +kernel
theorem dX12_makeLaw_200 : decode cX12_makeLaw 200 = .ok (.getfield 263, 3) := by decide +kernel
theorem dX12_makeLaw_203 : decode cX12_makeLaw 203 = .ok (.lload 6, 2) := by decide +kernel
theorem dX12_makeLaw_205 : decode cX12_makeLaw 205 = .ok (.lmul, 1) := by decide +kernel
theorem dX12_makeLaw_206 : decode cX12_makeLaw 206 = .ok (.lload_n 2, 1) := by decide +kernel
theorem dX12_makeLaw_207 : decode cX12_makeLaw 207 = .ok (.lload 4, 2) := by decide +kernel
theorem dX12_makeLaw_209 : decode cX12_makeLaw 209 = .ok (.lmul, 1) := by decide +kernel
theorem dX12_makeLaw_210 : decode cX12_makeLaw 210 = .ok (.lsub, 1) := by decide +kernel
theorem dX12_makeLaw_211 : decode cX12_makeLaw 211 = .ok (.putfield 273, 3) := by decide +kernel
theorem dX12_makeLaw_214 : decode cX12_makeLaw 214 = .ok (.aload_n 0, 1) := by decide +kernel
theorem dX12_makeLaw_215 : decode cX12_makeLaw 215 = .ok (.aload_n 0, 1) := by decide +kernel
theorem dX12_makeLaw_216 : decode cX12_makeLaw 216 = .ok (.getfield 263, 3) := by decide +kernel
theorem dX12_makeLaw_219 : decode cX12_makeLaw 219 = .ok (.lload 8, 2) := by decide +kernel
theorem dX12_makeLaw_221 : decode cX12_makeLaw 221 = .ok (.lmul, 1) := by decide +kernel
theorem dX12_makeLaw_222 : decode cX12_makeLaw 222 = .ok (.lload_n 2, 1) := by decide +kernel
theorem dX12_makeLaw_223 : decode cX12_makeLaw 223 = .ok (.lload_n 2, 1) := by decide +kernel
theorem dX12_makeLaw_224 : decode cX12_makeLaw 224 = .ok (.lmul, 1) := by decide +kernel
theorem dX12_makeLaw_225 : decode cX12_makeLaw 225 = .ok (.lsub, 1) := by decide +kernel
theorem dX12_makeLaw_226 : decode cX12_makeLaw 226 = .ok (.putfield 276, 3) := by decide +kernel
theorem dX12_makeLaw_229 : decode cX12_makeLaw 229 = .ok (.return_, 1) := by decide +kernel
theorem dX12_valid_0 : decode cX12_valid 0 = .ok (.aload_n 0, 1) := by decide +kernel
theorem dX12_valid_1 : decode cX12_valid 1 = .ok (.iload_n 1, 1) := by decide +kernel
theorem dX12_valid_2 : decode cX12_valid 2 = .ok (.invokevirtual 231, 3) := by decide +kernel
theorem dX12_valid_5 : decode cX12_valid 5 = .ok (.ifCond .ne 5, 3) := by decide +kernel
theorem dX12_valid_8 : decode cX12_valid 8 = .ok (.iconst (-1), 1) := by decide +kernel
theorem dX12_valid_9 : decode cX12_valid 9 = .ok (.ireturn, 1) := by decide +kernel
theorem dX12_valid_10 : decode cX12_valid 10 = .ok (.aload_n 0, 1) := by decide +kernel
theorem dX12_valid_11 : decode cX12_valid 11 = .ok (.iload_n 1, 1) := by decide +kernel
theorem dX12_valid_12 : decode cX12_valid 12 = .ok (.invokevirtual 279, 3) := by decide +kernel
theorem dX12_valid_15 : decode cX12_valid 15 = .ok (.aload_n 0, 1) := by decide +kernel
theorem dX12_valid_16 : decode cX12_valid 16 = .ok (.getfield 276, 3) := by decide +kernel
theorem dX12_valid_19 : decode cX12_valid 19 = .ok (.lconst 0, 1) := by decide +kernel
theorem dX12_valid_20 : decode cX12_valid 20 = .ok (.lcmp, 1) := by decide +kernel
theorem dX12_valid_21 : decode cX12_valid 21 = .ok (.ifCond .le 68, 3) := by decide +kernel
theorem dX12_valid_24 : decode cX12_valid 24 = .ok (.aload_n 0, 1) := by decide +kernel
theorem dX12_valid_25 : decode cX12_valid 25 = .ok (.getfield 273, 3) := by decide +kernel
theorem dX12_valid_28 : decode cX12_valid 28 = .ok (.lconst 0, 1) := by decide +kernel
theorem dX12_valid_29 : decode cX12_valid 29 = .ok (.lcmp, 1) := by decide +kernel
theorem dX12_valid_30 : decode cX12_valid 30 = .ok (.ifCond .lt 59, 3) := by decide +kernel
theorem dX12_valid_33 : decode cX12_valid 33 = .ok (.aload_n 0, 1) := by decide +kernel
theorem dX12_valid_34 : decode cX12_valid 34 = .ok (.getfield 273, 3) := by decide +kernel
theorem dX12_valid_37 : decode cX12_valid 37 = .ok (.ldc2_w 152, 3) := by decide +kernel
theorem dX12_valid_40 : decode cX12_valid 40 = .ok (.aload_n 0, 1) := by decide +kernel
theorem dX12_valid_41 : decode cX12_valid 41 = .ok (.getfield 276, 3) := by decide +kernel
theorem dX12_valid_44 : decode cX12_valid 44 = .ok (.lmul, 1) := by decide +kernel
theorem dX12_valid_45 : decode cX12_valid 45 = .ok (.lcmp, 1) := by decide +kernel
theorem dX12_valid_46 : decode cX12_valid 46 = .ok (.ifCond .gt 43, 3) := by decide +kernel
theorem dX12_valid_49 : decode cX12_valid 49 = .ok (.ldc2_w 116, 3) := by decide +kernel
theorem dX12_valid_52 : decode cX12_valid 52 = .ok (.aload_n 0, 1) := by decide +kernel
theorem dX12_valid_53 : decode cX12_valid 53 = .ok (.getfield 273, 3) := by decide +kernel
theorem dX12_valid_56 : decode cX12_valid 56 = .ok (.lmul, 1) := by decide +kernel
theorem dX12_valid_57 : decode cX12_valid 57 = .ok (.ldc2_w 282, 3) := by decide +kernel
theorem dX12_valid_60 : decode cX12_valid 60 = .ok (.aload_n 0, 1) := by decide +kernel
theorem dX12_valid_61 : decode cX12_valid 61 = .ok (.getfield 276, 3) := by decide +kernel
theorem dX12_valid_64 : decode cX12_valid 64 = .ok (.lmul, 1) := by decide +kernel
theorem dX12_valid_65 : decode cX12_valid 65 = .ok (.lcmp, 1) := by decide +kernel
theorem dX12_valid_66 : decode cX12_valid 66 = .ok (.ifCond .lt 23, 3) := by decide +kernel
theorem dX12_valid_69 : decode cX12_valid 69 = .ok (.ldc2_w 116, 3) := by decide +kernel
theorem dX12_valid_72 : decode cX12_valid 72 = .ok (.aload_n 0, 1) := by decide +kernel
theorem dX12_valid_73 : decode cX12_valid 73 = .ok (.getfield 273, 3) := by decide +kernel
theorem dX12_valid_76 : decode cX12_valid 76 = .ok (.lmul, 1) := by decide +kernel
theorem dX12_valid_77 : decode cX12_valid 77 = .ok (.ldc2_w 284, 3) := by decide +kernel
theorem dX12_valid_80 : decode cX12_valid 80 = .ok (.aload_n 0, 1) := by decide +kernel
theorem dX12_valid_81 : decode cX12_valid 81 = .ok (.getfield 276, 3) := by decide +kernel
theorem dX12_valid_84 : decode cX12_valid 84 = .ok (.lmul, 1) := by decide +kernel
theorem dX12_valid_85 : decode cX12_valid 85 = .ok (.lcmp, 1) := by decide +kernel
theorem dX12_valid_86 : decode cX12_valid 86 = .ok (.ifCond .le 5, 3) := by decide +kernel
theorem dX12_valid_89 : decode cX12_valid 89 = .ok (.iconst 1, 1) := by decide +kernel
theorem dX12_valid_90 : decode cX12_valid 90 = .ok (.ireturn, 1) := by decide +kernel
theorem dX12_valid_91 : decode cX12_valid 91 = .ok (.aload_n 0, 1) := by decide +kernel
theorem dX12_valid_92 : decode cX12_valid 92 = .ok (.getfield 267, 3) := by decide +kernel
theorem dX12_valid_95 : decode cX12_valid 95 = .ok (.ldc2_w 286, 3) := by decide +kernel
theorem dX12_valid_98 : decode cX12_valid 98 = .ok (.aload_n 0, 1) := by decide +kernel
theorem dX12_valid_99 : decode cX12_valid 99 = .ok (.getfield 263, 3) := by decide +kernel
theorem dX12_valid_102 : decode cX12_valid 102 = .ok (.lmul, 1) := by decide +kernel
theorem dX12_valid_103 : decode cX12_valid 103 = .ok (.lcmp, 1) := by decide +kernel
theorem dX12_valid_104 : decode cX12_valid 104 = .ok (.ifCond .gt 19, 3) := by decide +kernel
theorem dX12_valid_107 : decode cX12_valid 107 = .ok (.aload_n 0, 1) := by decide +kernel
theorem dX12_valid_108 : decode cX12_valid 108 = .ok (.getfield 267, 3) := by decide +kernel
theorem dX12_valid_111 : decode cX12_valid 111 = .ok (.ldc2_w 288, 3) := by decide +kernel
theorem dX12_valid_114 : decode cX12_valid 114 = .ok (.aload_n 0, 1) := by decide +kernel
theorem dX12_valid_115 : decode cX12_valid 115 = .ok (.getfield 263, 3) := by decide +kernel
theorem dX12_valid_118 : decode cX12_valid 118 = .ok (.lmul, 1) := by decide +kernel
theorem dX12_valid_119 : decode cX12_valid 119 = .ok (.lcmp, 1) := by decide +kernel
theorem dX12_valid_120 : decode cX12_valid 120 = .ok (.ifCond .ge 5, 3) := by decide +kernel
theorem dX12_valid_123 : decode cX12_valid 123 = .ok (.iconst 2, 1) := by decide +kernel
theorem dX12_valid_124 : decode cX12_valid 124 = .ok (.ireturn, 1) := by decide +kernel
theorem dX12_valid_125 : decode cX12_valid 125 = .ok (.aload_n 0, 1) := by decide +kernel
theorem dX12_valid_126 : decode cX12_valid 126 = .ok (.getfield 270, 3) := by decide +kernel
theorem dX12_valid_129 : decode cX12_valid 129 = .ok (.ldc2_w 290, 3) := by decide +kernel
theorem dX12_valid_132 : decode cX12_valid 132 = .ok (.lcmp, 1) := by decide +kernel
theorem dX12_valid_133 : decode cX12_valid 133 = .ok (.ifCond .le 7, 3) := by decide +kernel
theorem dX12_valid_136 : decode cX12_valid 136 = .ok (.iconst 3, 1) := by decide +kernel
theorem dX12_valid_137 : decode cX12_valid 137 = .ok (.goto 4, 3) := by decide +kernel
theorem dX12_valid_140 : decode cX12_valid 140 = .ok (.iconst 0, 1) := by decide +kernel
theorem dX12_valid_141 : decode cX12_valid 141 = .ok (.ireturn, 1) := by decide +kernel
theorem dX12_law_0 : decode cX12_law 0 = .ok (.aload_n 0, 1) := by decide +kernel
theorem dX12_law_1 : decode cX12_law 1 = .ok (.iload_n 1, 1) := by decide +kernel
theorem dX12_law_2 : decode cX12_law 2 = .ok (.invokevirtual 231, 3) := by decide +kernel
theorem dX12_law_5 : decode cX12_law 5 = .ok (.ifCond .eq 15, 3) := by decide +kernel
theorem dX12_law_8 : decode cX12_law 8 = .ok (.iload_n 2, 1) := by decide +kernel
theorem dX12_law_9 : decode cX12_law 9 = .ok (.i2l, 1) := by decide +kernel
theorem dX12_law_10 : decode cX12_law 10 = .ok (.lconst 0, 1) := by decide +kernel
theorem dX12_law_11 : decode cX12_law 11 = .ok (.ldc2_w 158, 3) := by decide +kernel
theorem dX12_law_14 : decode cX12_law 14 = .ok (.invokestatic 110, 3) := by decide +kernel
theorem dX12_law_17 : decode cX12_law 17 = .ok (.ifCond .ne 7, 3) := by decide +kernel
theorem dX12_law_20 : decode cX12_law 20 = .ok (.ldc2_w 106, 3) := by decide +kernel
theorem dX12_law_23 : decode cX12_law 23 = .ok (.lreturn, 1) := by decide +kernel
theorem dX12_law_24 : decode cX12_law 24 = .ok (.aload_n 0, 1) := by decide +kernel
theorem dX12_law_25 : decode cX12_law 25 = .ok (.iload_n 1, 1) := by decide +kernel
theorem dX12_law_26 : decode cX12_law 26 = .ok (.invokevirtual 279, 3) := by decide +kernel
theorem dX12_law_29 : decode cX12_law 29 = .ok (.iload_n 2, 1) := by decide +kernel
theorem dX12_law_30 : decode cX12_law 30 = .ok (.ifCond .ne 10, 3) := by decide +kernel
theorem dX12_law_33 : decode cX12_law 33 = .ok (.aload_n 0, 1) := by decide +kernel
theorem dX12_law_34 : decode cX12_law 34 = .ok (.getfield 263, 3) := by decide +kernel
theorem dX12_law_37 : decode cX12_law 37 = .ok (.goto 43, 3) := by decide +kernel
theorem dX12_law_40 : decode cX12_law 40 = .ok (.iload_n 2, 1) := by decide +kernel
theorem dX12_law_41 : decode cX12_law 41 = .ok (.iconst 1, 1) := by decide +kernel
theorem dX12_law_42 : decode cX12_law 42 = .ok (.if_icmp .ne 10, 3) := by decide +kernel
theorem dX12_law_45 : decode cX12_law 45 = .ok (.aload_n 0, 1) := by decide +kernel
theorem dX12_law_46 : decode cX12_law 46 = .ok (.getfield 273, 3) := by decide +kernel
theorem dX12_law_49 : decode cX12_law 49 = .ok (.goto 31, 3) := by decide +kernel
theorem dX12_law_52 : decode cX12_law 52 = .ok (.iload_n 2, 1) := by decide +kernel
theorem dX12_law_53 : decode cX12_law 53 = .ok (.iconst 2, 1) := by decide +kernel
theorem dX12_law_54 : decode cX12_law 54 = .ok (.if_icmp .ne 10, 3) := by decide +kernel
theorem dX12_law_57 : decode cX12_law 57 = .ok (.aload_n 0, 1) := by decide +kernel
theorem dX12_law_58 : decode cX12_law 58 = .ok (.getfield 276, 3) := by decide +kernel
theorem dX12_law_61 : decode cX12_law 61 = .ok (.goto 19, 3) := by decide +kernel
theorem dX12_law_64 : decode cX12_law 64 = .ok (.iload_n 2, 1) := by decide +kernel
theorem dX12_law_65 : decode cX12_law 65 = .ok (.iconst 3, 1) := by decide +kernel
theorem dX12_law_66 : decode cX12_law 66 = .ok (.if_icmp .ne 10, 3) := by decide +kernel
theorem dX12_law_69 : decode cX12_law 69 = .ok (.aload_n 0, 1) := by decide +kernel
theorem dX12_law_70 : decode cX12_law 70 = .ok (.getfield 267, 3) := by decide +kernel
theorem dX12_law_73 : decode cX12_law 73 = .ok (.goto 7, 3) := by decide +kernel
theorem dX12_law_76 : decode cX12_law 76 = .ok (.aload_n 0, 1) := by decide +kernel
theorem dX12_law_77 : decode cX12_law 77 = .ok (.getfield 270, 3) := by decide +kernel
theorem dX12_law_80 : decode cX12_law 80 = .ok (.lreturn, 1) := by decide +kernel
theorem dX12_sheet_0 : decode cX12_sheet 0 = .ok (.aload_n 0, 1) := by decide +kernel
theorem dX12_sheet_1 : decode cX12_sheet 1 = .ok (.iconst 0, 1) := by decide +kernel
theorem dX12_sheet_2 : decode cX12_sheet 2 = .ok (.putfield 103, 3) := by decide +kernel
theorem dX12_sheet_5 : decode cX12_sheet 5 = .ok (.iload_n 1, 1) := by decide +kernel
theorem dX12_sheet_6 : decode cX12_sheet 6 = .ok (.i2l, 1) := by decide +kernel
theorem dX12_sheet_7 : decode cX12_sheet 7 = .ok (.lconst 0, 1) := by decide +kernel
theorem dX12_sheet_8 : decode cX12_sheet 8 = .ok (.ldc2_w 150, 3) := by decide +kernel
theorem dX12_sheet_11 : decode cX12_sheet 11 = .ok (.invokestatic 110, 3) := by decide +kernel
theorem dX12_sheet_14 : decode cX12_sheet 14 = .ok (.ifCond .ne 5, 3) := by decide +kernel
theorem dX12_sheet_17 : decode cX12_sheet 17 = .ok (.iconst (-1), 1) := by decide +kernel
theorem dX12_sheet_18 : decode cX12_sheet 18 = .ok (.ireturn, 1) := by decide +kernel
theorem dX12_sheet_19 : decode cX12_sheet 19 = .ok (.iload_n 2, 1) := by decide +kernel
theorem dX12_sheet_20 : decode cX12_sheet 20 = .ok (.i2l, 1) := by decide +kernel
theorem dX12_sheet_21 : decode cX12_sheet 21 = .ok (.lconst 0, 1) := by decide +kernel
theorem dX12_sheet_22 : decode cX12_sheet 22 = .ok (.ldc2_w 152, 3) := by decide +kernel
theorem dX12_sheet_25 : decode cX12_sheet 25 = .ok (.invokestatic 110, 3) := by decide +kernel
theorem dX12_sheet_28 : decode cX12_sheet 28 = .ok (.ifCond .eq 9, 3) := by decide +kernel
theorem dX12_sheet_31 : decode cX12_sheet 31 = .ok (.iload_n 3, 1) := by decide +kernel
theorem dX12_sheet_32 : decode cX12_sheet 32 = .ok (.bipush 40, 2) := by decide +kernel
theorem dX12_sheet_34 : decode cX12_sheet 34 = .ok (.if_icmp .le 6, 3) := by decide +kernel
theorem dX12_sheet_37 : decode cX12_sheet 37 = .ok (.bipush (-2), 2) := by decide +kernel
theorem dX12_sheet_39 : decode cX12_sheet 39 = .ok (.ireturn, 1) := by decide +kernel
theorem dX12_sheet_40 : decode cX12_sheet 40 = .ok (.iload_n 3, 1) := by decide +kernel
theorem dX12_sheet_41 : decode cX12_sheet 41 = .ok (.ifCond .ge 9, 3) := by decide +kernel
theorem dX12_sheet_44 : decode cX12_sheet 44 = .ok (.aload_n 0, 1) := by decide +kernel
theorem dX12_sheet_45 : decode cX12_sheet 45 = .ok (.iconst 4, 1) := by decide +kernel
theorem dX12_sheet_46 : decode cX12_sheet 46 = .ok (.invokevirtual 154, 3) := by decide +kernel
theorem dX12_sheet_49 : decode cX12_sheet 49 = .ok (.ireturn, 1) := by decide +kernel
theorem dX12_sheet_50 : decode cX12_sheet 50 = .ok (.aload_n 0, 1) := by decide +kernel
theorem dX12_sheet_51 : decode cX12_sheet 51 = .ok (.getfield 38, 3) := by decide +kernel
theorem dX12_sheet_54 : decode cX12_sheet 54 = .ok (.iload_n 1, 1) := by decide +kernel
theorem dX12_sheet_55 : decode cX12_sheet 55 = .ok (.iload_n 2, 1) := by decide +kernel
theorem dX12_sheet_56 : decode cX12_sheet 56 = .ok (.iastore, 1) := by decide +kernel
theorem dX12_sheet_57 : decode cX12_sheet 57 = .ok (.aload_n 0, 1) := by decide +kernel
theorem dX12_sheet_58 : decode cX12_sheet 58 = .ok (.getfield 41, 3) := by decide +kernel
theorem dX12_sheet_61 : decode cX12_sheet 61 = .ok (.iload_n 1, 1) := by decide +kernel
theorem dX12_sheet_62 : decode cX12_sheet 62 = .ok (.iload_n 3, 1) := by decide +kernel
theorem dX12_sheet_63 : decode cX12_sheet 63 = .ok (.iastore, 1) := by decide +kernel
theorem dX12_sheet_64 : decode cX12_sheet 64 = .ok (.iconst 0, 1) := by decide +kernel
theorem dX12_sheet_65 : decode cX12_sheet 65 = .ok (.istore 4, 2) := by decide +kernel
theorem dX12_sheet_67 : decode cX12_sheet 67 = .ok (.iload 4, 2) := by decide +kernel
theorem dX12_sheet_69 : decode cX12_sheet 69 = .ok (.bipush 40, 2) := by decide +kernel
theorem dX12_sheet_71 : decode cX12_sheet 71 = .ok (.if_icmp .ge 22, 3) := by decide +kernel
theorem dX12_sheet_74 : decode cX12_sheet 74 = .ok (.aload_n 0, 1) := by decide +kernel
theorem dX12_sheet_75 : decode cX12_sheet 75 = .ok (.getfield 44, 3) := by decide +kernel
theorem dX12_sheet_78 : decode cX12_sheet 78 = .ok (.bipush 40, 2) := by decide +kernel
theorem dX12_sheet_80 : decode cX12_sheet 80 = .ok (.iload_n 1, 1) := by decide +kernel
theorem dX12_sheet_81 : decode cX12_sheet 81 = .ok (.imul, 1) := by decide +kernel
theorem dX12_sheet_82 : decode cX12_sheet 82 = .ok (.iload 4, 2) := by decide +kernel
theorem dX12_sheet_84 : decode cX12_sheet 84 = .ok (.iadd, 1) := by decide +kernel
theorem dX12_sheet_85 : decode cX12_sheet 85 = .ok (.iconst 0, 1) := by decide +kernel
theorem dX12_sheet_86 : decode cX12_sheet 86 = .ok (.iastore, 1) := by decide +kernel
theorem dX12_sheet_87 : decode cX12_sheet 87 = .ok (.iinc 4 1, 3) := by decide +kernel
theorem dX12_sheet_90 : decode cX12_sheet 90 = .ok (.goto (-23), 3) := by decide +kernel
theorem dX12_sheet_93 : decode cX12_sheet 93 = .ok (.iconst 1, 1) := by decide +kernel
theorem dX12_sheet_94 : decode cX12_sheet 94 = .ok (.ireturn, 1) := by decide +kernel
theorem dX12_drop_0 : decode cX12_drop 0 = .ok (.iload_n 1, 1) := by decide +kernel
theorem dX12_drop_1 : decode cX12_drop 1 = .ok (.i2l, 1) := by decide +kernel
theorem dX12_drop_2 : decode cX12_drop 2 = .ok (.lconst 0, 1) := by decide +kernel
theorem dX12_drop_3 : decode cX12_drop 3 = .ok (.ldc2_w 150, 3) := by decide +kernel
theorem dX12_drop_6 : decode cX12_drop 6 = .ok (.invokestatic 110, 3) := by decide +kernel
theorem dX12_drop_9 : decode cX12_drop 9 = .ok (.ifCond .ne 5, 3) := by decide +kernel
theorem dX12_drop_12 : decode cX12_drop 12 = .ok (.iconst (-1), 1) := by decide +kernel
theorem dX12_drop_13 : decode cX12_drop 13 = .ok (.ireturn, 1) := by decide +kernel
theorem dX12_drop_14 : decode cX12_drop 14 = .ok (.aload_n 0, 1) := by decide +kernel
theorem dX12_drop_15 : decode cX12_drop 15 = .ok (.getfield 38, 3) := by decide +kernel
theorem dX12_drop_18 : decode cX12_drop 18 = .ok (.iload_n 1, 1) := by decide +kernel
theorem dX12_drop_19 : decode cX12_drop 19 = .ok (.iaload, 1) := by decide +kernel
theorem dX12_drop_20 : decode cX12_drop 20 = .ok (.bipush (-9), 2) := by decide +kernel
theorem dX12_drop_22 : decode cX12_drop 22 = .ok (.if_icmp .ne 7, 3) := by decide +kernel
theorem dX12_drop_25 : decode cX12_drop 25 = .ok (.iconst 0, 1) := by decide +kernel
theorem dX12_drop_26 : decode cX12_drop 26 = .ok (.goto 4, 3) := by decide +kernel
theorem dX12_drop_29 : decode cX12_drop 29 = .ok (.iconst 1, 1) := by decide +kernel
theorem dX12_drop_30 : decode cX12_drop 30 = .ok (.istore_n 2, 1) := by decide +kernel
theorem dX12_drop_31 : decode cX12_drop 31 = .ok (.aload_n 0, 1) := by decide +kernel
theorem dX12_drop_32 : decode cX12_drop 32 = .ok (.getfield 38, 3) := by decide +kernel
theorem dX12_drop_35 : decode cX12_drop 35 = .ok (.iload_n 1, 1) := by decide +kernel
theorem dX12_drop_36 : decode cX12_drop 36 = .ok (.bipush (-9), 2) := by decide +kernel
theorem dX12_drop_38 : decode cX12_drop 38 = .ok (.iastore, 1) := by decide +kernel
theorem dX12_drop_39 : decode cX12_drop 39 = .ok (.iload_n 2, 1) := by decide +kernel
theorem dX12_drop_40 : decode cX12_drop 40 = .ok (.ireturn, 1) := by decide +kernel
theorem dX12_put_0 : decode cX12_put 0 = .ok (.aload_n 0, 1) := by decide +kernel
theorem dX12_put_1 : decode cX12_put 1 = .ok (.iconst 0, 1) := by decide +kernel
theorem dX12_put_2 : decode cX12_put 2 = .ok (.putfield 103, 3) := by decide +kernel
theorem dX12_put_5 : decode cX12_put 5 = .ok (.iload_n 1, 1) := by decide +kernel
theorem dX12_put_6 : decode cX12_put 6 = .ok (.i2l, 1) := by decide +kernel
theorem dX12_put_7 : decode cX12_put 7 = .ok (.lconst 0, 1) := by decide +kernel
theorem dX12_put_8 : decode cX12_put 8 = .ok (.ldc2_w 150, 3) := by decide +kernel
theorem dX12_put_11 : decode cX12_put 11 = .ok (.invokestatic 110, 3) := by decide +kernel
theorem dX12_put_14 : decode cX12_put 14 = .ok (.ifCond .ne 5, 3) := by decide +kernel
theorem dX12_put_17 : decode cX12_put 17 = .ok (.iconst (-1), 1) := by decide +kernel
theorem dX12_put_18 : decode cX12_put 18 = .ok (.ireturn, 1) := by decide +kernel
theorem dX12_put_19 : decode cX12_put 19 = .ok (.aload_n 0, 1) := by decide +kernel
theorem dX12_put_20 : decode cX12_put 20 = .ok (.getfield 38, 3) := by decide +kernel
theorem dX12_put_23 : decode cX12_put 23 = .ok (.iload_n 1, 1) := by decide +kernel
theorem dX12_put_24 : decode cX12_put 24 = .ok (.iaload, 1) := by decide +kernel
theorem dX12_put_25 : decode cX12_put 25 = .ok (.bipush (-9), 2) := by decide +kernel
theorem dX12_put_27 : decode cX12_put 27 = .ok (.if_icmp .ne 9, 3) := by decide +kernel
theorem dX12_put_30 : decode cX12_put 30 = .ok (.aload_n 0, 1) := by decide +kernel
theorem dX12_put_31 : decode cX12_put 31 = .ok (.iconst 1, 1) := by decide +kernel
theorem dX12_put_32 : decode cX12_put 32 = .ok (.invokevirtual 154, 3) := by decide +kernel
theorem dX12_put_35 : decode cX12_put 35 = .ok (.ireturn, 1) := by decide +kernel
theorem dX12_put_36 : decode cX12_put 36 = .ok (.iload_n 2, 1) := by decide +kernel
theorem dX12_put_37 : decode cX12_put 37 = .ok (.i2l, 1) := by decide +kernel
theorem dX12_put_38 : decode cX12_put 38 = .ok (.lconst 0, 1) := by decide +kernel
theorem dX12_put_39 : decode cX12_put 39 = .ok (.aload_n 0, 1) := by decide +kernel
theorem dX12_put_40 : decode cX12_put 40 = .ok (.getfield 41, 3) := by decide +kernel
theorem dX12_put_43 : decode cX12_put 43 = .ok (.iload_n 1, 1) := by decide +kernel
theorem dX12_put_44 : decode cX12_put 44 = .ok (.iaload, 1) := by decide +kernel
theorem dX12_put_45 : decode cX12_put 45 = .ok (.i2l, 1) := by decide +kernel
theorem dX12_put_46 : decode cX12_put 46 = .ok (.lconst 1, 1) := by decide +kernel
theorem dX12_put_47 : decode cX12_put 47 = .ok (.lsub, 1) := by decide +kernel
theorem dX12_put_48 : decode cX12_put 48 = .ok (.invokestatic 110, 3) := by decide +kernel
theorem dX12_put_51 : decode cX12_put 51 = .ok (.ifCond .ne 9, 3) := by decide +kernel
theorem dX12_put_54 : decode cX12_put 54 = .ok (.aload_n 0, 1) := by decide +kernel
theorem dX12_put_55 : decode cX12_put 55 = .ok (.iconst 3, 1) := by decide +kernel
theorem dX12_put_56 : decode cX12_put 56 = .ok (.invokevirtual 154, 3) := by decide +kernel
theorem dX12_put_59 : decode cX12_put 59 = .ok (.ireturn, 1) := by decide +kernel
theorem dX12_put_60 : decode cX12_put 60 = .ok (.aload_n 0, 1) := by decide +kernel
theorem dX12_put_61 : decode cX12_put 61 = .ok (.getfield 44, 3) := by decide +kernel
theorem dX12_put_64 : decode cX12_put 64 = .ok (.bipush 40, 2) := by decide +kernel
theorem dX12_put_66 : decode cX12_put 66 = .ok (.iload_n 1, 1) := by decide +kernel
theorem dX12_put_67 : decode cX12_put 67 = .ok (.imul, 1) := by decide +kernel
theorem dX12_put_68 : decode cX12_put 68 = .ok (.iload_n 2, 1) := by decide +kernel
theorem dX12_put_69 : decode cX12_put 69 = .ok (.iadd, 1) := by decide +kernel
theorem dX12_put_70 : decode cX12_put 70 = .ok (.aload_n 0, 1) := by decide +kernel
theorem dX12_put_71 : decode cX12_put 71 = .ok (.getfield 38, 3) := by decide +kernel
theorem dX12_put_74 : decode cX12_put 74 = .ok (.iload_n 1, 1) := by decide +kernel
theorem dX12_put_75 : decode cX12_put 75 = .ok (.iaload, 1) := by decide +kernel
theorem dX12_put_76 : decode cX12_put 76 = .ok (.ifCond .ne 8, 3) := by decide +kernel
theorem dX12_put_79 : decode cX12_put 79 = .ok (.iload_n 3, 1) := by decide +kernel
theorem dX12_put_80 : decode cX12_put 80 = .ok (.i2b, 1) := by decide +kernel
theorem dX12_put_81 : decode cX12_put 81 = .ok (.goto 19, 3) := by decide +kernel
theorem dX12_put_84 : decode cX12_put 84 = .ok (.aload_n 0, 1) := by decide +kernel
theorem dX12_put_85 : decode cX12_put 85 = .ok (.getfield 38, 3) := by decide +kernel
theorem dX12_put_88 : decode cX12_put 88 = .ok (.iload_n 1, 1) := by decide +kernel
theorem dX12_put_89 : decode cX12_put 89 = .ok (.iaload, 1) := by decide +kernel
theorem dX12_put_90 : decode cX12_put 90 = .ok (.iconst 1, 1) := by decide +kernel
theorem dX12_put_91 : decode cX12_put 91 = .ok (.if_icmp .ne 8, 3) := by decide +kernel
theorem dX12_put_94 : decode cX12_put 94 = .ok (.iload_n 3, 1) := by decide +kernel
theorem dX12_put_95 : decode cX12_put 95 = .ok (.i2s, 1) := by decide +kernel
theorem dX12_put_96 : decode cX12_put 96 = .ok (.goto 4, 3) := by decide +kernel
theorem dX12_put_99 : decode cX12_put 99 = .ok (.iload_n 3, 1) := by decide +kernel
theorem dX12_put_100 : decode cX12_put 100 = .ok (.iastore, 1) := by decide +kernel
theorem dX12_put_101 : decode cX12_put 101 = .ok (.iconst 1, 1) := by decide +kernel
theorem dX12_put_102 : decode cX12_put 102 = .ok (.ireturn, 1) := by decide +kernel
theorem dX12_at_0 : decode cX12_at 0 = .ok (.aload_n 0, 1) := by decide +kernel
theorem dX12_at_1 : decode cX12_at 1 = .ok (.iconst 0, 1) := by decide +kernel
theorem dX12_at_2 : decode cX12_at 2 = .ok (.putfield 103, 3) := by decide +kernel
theorem dX12_at_5 : decode cX12_at 5 = .ok (.iload_n 1, 1) := by decide +kernel
theorem dX12_at_6 : decode cX12_at 6 = .ok (.i2l, 1) := by decide +kernel
theorem dX12_at_7 : decode cX12_at 7 = .ok (.lconst 0, 1) := by decide +kernel
theorem dX12_at_8 : decode cX12_at 8 = .ok (.ldc2_w 150, 3) := by decide +kernel
theorem dX12_at_11 : decode cX12_at 11 = .ok (.invokestatic 110, 3) := by decide +kernel
theorem dX12_at_14 : decode cX12_at 14 = .ok (.ifCond .eq 15, 3) := by decide +kernel
theorem dX12_at_17 : decode cX12_at 17 = .ok (.iload_n 3, 1) := by decide +kernel
theorem dX12_at_18 : decode cX12_at 18 = .ok (.i2l, 1) := by decide +kernel
theorem dX12_at_19 : decode cX12_at 19 = .ok (.lconst 0, 1) := by decide +kernel
theorem dX12_at_20 : decode cX12_at 20 = .ok (.ldc2_w 152, 3) := by decide +kernel
theorem dX12_at_23 : decode cX12_at 23 = .ok (.invokestatic 110, 3) := by decide +kernel
theorem dX12_at_26 : decode cX12_at 26 = .ok (.ifCond .ne 7, 3) := by decide +kernel
theorem dX12_at_29 : decode cX12_at 29 = .ok (.ldc2_w 106, 3) := by decide +kernel
theorem dX12_at_32 : decode cX12_at 32 = .ok (.lreturn, 1) := by decide +kernel
theorem dX12_at_33 : decode cX12_at 33 = .ok (.aload_n 0, 1) := by decide +kernel
theorem dX12_at_34 : decode cX12_at 34 = .ok (.getfield 38, 3) := by decide +kernel
theorem dX12_at_37 : decode cX12_at 37 = .ok (.iload_n 1, 1) := by decide +kernel
theorem dX12_at_38 : decode cX12_at 38 = .ok (.iaload, 1) := by decide +kernel
theorem dX12_at_39 : decode cX12_at 39 = .ok (.bipush (-9), 2) := by decide +kernel
theorem dX12_at_41 : decode cX12_at 41 = .ok (.if_icmp .eq 19, 3) := by decide +kernel
theorem dX12_at_44 : decode cX12_at 44 = .ok (.aload_n 0, 1) := by decide +kernel
theorem dX12_at_45 : decode cX12_at 45 = .ok (.getfield 38, 3) := by decide +kernel
theorem dX12_at_48 : decode cX12_at 48 = .ok (.iload_n 1, 1) := by decide +kernel
theorem dX12_at_49 : decode cX12_at 49 = .ok (.iaload, 1) := by decide +kernel
theorem dX12_at_50 : decode cX12_at 50 = .ok (.iload_n 3, 1) := by decide +kernel
theorem dX12_at_51 : decode cX12_at 51 = .ok (.if_icmp .eq 9, 3) := by decide +kernel
theorem dX12_at_54 : decode cX12_at 54 = .ok (.aload_n 0, 1) := by decide +kernel
theorem dX12_at_55 : decode cX12_at 55 = .ok (.iconst 2, 1) := by decide +kernel
theorem dX12_at_56 : decode cX12_at 56 = .ok (.invokevirtual 292, 3) := by decide +kernel
theorem dX12_at_59 : decode cX12_at 59 = .ok (.lreturn, 1) := by decide +kernel
theorem dX12_at_60 : decode cX12_at 60 = .ok (.aload_n 0, 1) := by decide +kernel
theorem dX12_at_61 : decode cX12_at 61 = .ok (.getfield 38, 3) := by decide +kernel
theorem dX12_at_64 : decode cX12_at 64 = .ok (.iload_n 1, 1) := by decide +kernel
theorem dX12_at_65 : decode cX12_at 65 = .ok (.iaload, 1) := by decide +kernel
theorem dX12_at_66 : decode cX12_at 66 = .ok (.bipush (-9), 2) := by decide +kernel
theorem dX12_at_68 : decode cX12_at 68 = .ok (.if_icmp .ne 9, 3) := by decide +kernel
theorem dX12_at_71 : decode cX12_at 71 = .ok (.aload_n 0, 1) := by decide +kernel
theorem dX12_at_72 : decode cX12_at 72 = .ok (.iconst 1, 1) := by decide +kernel
theorem dX12_at_73 : decode cX12_at 73 = .ok (.invokevirtual 292, 3) := by decide +kernel
theorem dX12_at_76 : decode cX12_at 76 = .ok (.lreturn, 1) := by decide +kernel
theorem dX12_at_77 : decode cX12_at 77 = .ok (.iload_n 2, 1) := by decide +kernel
theorem dX12_at_78 : decode cX12_at 78 = .ok (.i2l, 1) := by decide +kernel
theorem dX12_at_79 : decode cX12_at 79 = .ok (.lconst 0, 1) := by decide +kernel
theorem dX12_at_80 : decode cX12_at 80 = .ok (.aload_n 0, 1) := by decide +kernel
theorem dX12_at_81 : decode cX12_at 81 = .ok (.getfield 41, 3) := by decide +kernel
theorem dX12_at_84 : decode cX12_at 84 = .ok (.iload_n 1, 1) := by decide +kernel
theorem dX12_at_85 : decode cX12_at 85 = .ok (.iaload, 1) := by decide +kernel
theorem dX12_at_86 : decode cX12_at 86 = .ok (.i2l, 1) := by decide +kernel
theorem dX12_at_87 : decode cX12_at 87 = .ok (.lconst 1, 1) := by decide +kernel
theorem dX12_at_88 : decode cX12_at 88 = .ok (.lsub, 1) := by decide +kernel
theorem dX12_at_89 : decode cX12_at 89 = .ok (.invokestatic 110, 3) := by decide +kernel
theorem dX12_at_92 : decode cX12_at 92 = .ok (.ifCond .ne 9, 3) := by decide +kernel
theorem dX12_at_95 : decode cX12_at 95 = .ok (.aload_n 0, 1) := by decide +kernel
theorem dX12_at_96 : decode cX12_at 96 = .ok (.iconst 3, 1) := by decide +kernel
theorem dX12_at_97 : decode cX12_at 97 = .ok (.invokevirtual 292, 3) := by decide +kernel
theorem dX12_at_100 : decode cX12_at 100 = .ok (.lreturn, 1) := by decide +kernel
theorem dX12_at_101 : decode cX12_at 101 = .ok (.aload_n 0, 1) := by decide +kernel
theorem dX12_at_102 : decode cX12_at 102 = .ok (.getfield 44, 3) := by decide +kernel
theorem dX12_at_105 : decode cX12_at 105 = .ok (.bipush 40, 2) := by decide +kernel
theorem dX12_at_107 : decode cX12_at 107 = .ok (.iload_n 1, 1) := by decide +kernel
theorem dX12_at_108 : decode cX12_at 108 = .ok (.imul, 1) := by decide +kernel
theorem dX12_at_109 : decode cX12_at 109 = .ok (.iload_n 2, 1) := by decide +kernel
theorem dX12_at_110 : decode cX12_at 110 = .ok (.iadd, 1) := by decide +kernel
theorem dX12_at_111 : decode cX12_at 111 = .ok (.iaload, 1) := by decide +kernel
theorem dX12_at_112 : decode cX12_at 112 = .ok (.i2l, 1) := by decide +kernel
theorem dX12_at_113 : decode cX12_at 113 = .ok (.lreturn, 1) := by decide +kernel
theorem dX12_begins_0 : decode cX12_begins 0 = .ok (.aload_n 0, 1) := by decide +kernel
theorem dX12_begins_1 : decode cX12_begins 1 = .ok (.bipush 31, 2) := by decide +kernel
theorem dX12_begins_3 : decode cX12_begins 3 = .ok (.aload_n 0, 1) := by decide +kernel
theorem dX12_begins_4 : decode cX12_begins 4 = .ok (.getfield 296, 3) := by decide +kernel
theorem dX12_begins_7 : decode cX12_begins 7 = .ok (.imul, 1) := by decide +kernel
theorem dX12_begins_8 : decode cX12_begins 8 = .ok (.iload_n 1, 1) := by decide +kernel
theorem dX12_begins_9 : decode cX12_begins 9 = .ok (.iadd, 1) := by decide +kernel
theorem dX12_begins_10 : decode cX12_begins 10 = .ok (.putfield 296, 3) := by decide +kernel
theorem dX12_begins_13 : decode cX12_begins 13 = .ok (.return_, 1) := by decide +kernel
theorem dX12_tell_0 : decode cX12_tell 0 = .ok (.aload_n 0, 1) := by decide +kernel
theorem dX12_tell_1 : decode cX12_tell 1 = .ok (.iload_n 1, 1) := by decide +kernel
theorem dX12_tell_2 : decode cX12_tell 2 = .ok (.invokevirtual 160, 3) := by decide +kernel
theorem dX12_tell_5 : decode cX12_tell 5 = .ok (.ifCond .ne 5, 3) := by decide +kernel
theorem dX12_tell_8 : decode cX12_tell 8 = .ok (.iconst (-1), 1) := by decide +kernel
theorem dX12_tell_9 : decode cX12_tell 9 = .ok (.ireturn, 1) := by decide +kernel
theorem dX12_tell_10 : decode cX12_tell 10 = .ok (.aload_n 0, 1) := by decide +kernel
theorem dX12_tell_11 : decode cX12_tell 11 = .ok (.getfield 23, 3) := by decide +kernel
theorem dX12_tell_14 : decode cX12_tell 14 = .ok (.iload_n 1, 1) := by decide +kernel
theorem dX12_tell_15 : decode cX12_tell 15 = .ok (.iaload, 1) := by decide +kernel
theorem dX12_tell_16 : decode cX12_tell 16 = .ok (.tableswitch 84 0 2 #[28, 40, 60], 28) := by decide +kernel
theorem dX12_tell_44 : decode cX12_tell 44 = .ok (.aload_n 0, 1) := by decide +kernel
theorem dX12_tell_45 : decode cX12_tell 45 = .ok (.iconst 1, 1) := by decide +kernel
theorem dX12_tell_46 : decode cX12_tell 46 = .ok (.invokevirtual 299, 3) := by decide +kernel
theorem dX12_tell_49 : decode cX12_tell 49 = .ok (.aload_n 0, 1) := by decide +kernel
theorem dX12_tell_50 : decode cX12_tell 50 = .ok (.getfield 26, 3) := by decide +kernel
theorem dX12_tell_53 : decode cX12_tell 53 = .ok (.iload_n 1, 1) := by decide +kernel
theorem dX12_tell_54 : decode cX12_tell 54 = .ok (.iaload, 1) := by decide +kernel
theorem dX12_tell_55 : decode cX12_tell 55 = .ok (.ireturn, 1) := by decide +kernel
theorem dX12_tell_56 : decode cX12_tell 56 = .ok (.aload_n 0, 1) := by decide +kernel
theorem dX12_tell_57 : decode cX12_tell 57 = .ok (.iconst 2, 1) := by decide +kernel
theorem dX12_tell_58 : decode cX12_tell 58 = .ok (.invokevirtual 299, 3) := by decide +kernel
theorem dX12_tell_61 : decode cX12_tell 61 = .ok (.aload_n 0, 1) := by decide +kernel
theorem dX12_tell_62 : decode cX12_tell 62 = .ok (.iconst 1, 1) := by decide +kernel
theorem dX12_tell_63 : decode cX12_tell 63 = .ok (.invokevirtual 299, 3) := by decide +kernel
theorem dX12_tell_66 : decode cX12_tell 66 = .ok (.bipush 10, 2) := by decide +kernel
theorem dX12_tell_68 : decode cX12_tell 68 = .ok (.aload_n 0, 1) := by decide +kernel
theorem dX12_tell_69 : decode cX12_tell 69 = .ok (.getfield 26, 3) := by decide +kernel
theorem dX12_tell_72 : decode cX12_tell 72 = .ok (.iload_n 1, 1) := by decide +kernel
theorem dX12_tell_73 : decode cX12_tell 73 = .ok (.iaload, 1) := by decide +kernel
theorem dX12_tell_74 : decode cX12_tell 74 = .ok (.imul, 1) := by decide +kernel
theorem dX12_tell_75 : decode cX12_tell 75 = .ok (.ireturn, 1) := by decide +kernel
theorem dX12_tell_76 : decode cX12_tell 76 = .ok (.aload_n 0, 1) := by decide +kernel
theorem dX12_tell_77 : decode cX12_tell 77 = .ok (.iconst 3, 1) := by decide +kernel
theorem dX12_tell_78 : decode cX12_tell 78 = .ok (.invokevirtual 299, 3) := by decide +kernel
theorem dX12_tell_81 : decode cX12_tell 81 = .ok (.aload_n 0, 1) := by decide +kernel
theorem dX12_tell_82 : decode cX12_tell 82 = .ok (.iconst 1, 1) := by decide +kernel
theorem dX12_tell_83 : decode cX12_tell 83 = .ok (.invokevirtual 299, 3) := by decide +kernel
theorem dX12_tell_86 : decode cX12_tell 86 = .ok (.aload_n 0, 1) := by decide +kernel
theorem dX12_tell_87 : decode cX12_tell 87 = .ok (.getfield 26, 3) := by decide +kernel
theorem dX12_tell_90 : decode cX12_tell 90 = .ok (.iload_n 1, 1) := by decide +kernel
theorem dX12_tell_91 : decode cX12_tell 91 = .ok (.iaload, 1) := by decide +kernel
theorem dX12_tell_92 : decode cX12_tell 92 = .ok (.aload_n 0, 1) := by decide +kernel
theorem dX12_tell_93 : decode cX12_tell 93 = .ok (.getfield 32, 3) := by decide +kernel
theorem dX12_tell_96 : decode cX12_tell 96 = .ok (.iload_n 1, 1) := by decide +kernel
theorem dX12_tell_97 : decode cX12_tell 97 = .ok (.iaload, 1) := by decide +kernel
theorem dX12_tell_98 : decode cX12_tell 98 = .ok (.iadd, 1) := by decide +kernel
theorem dX12_tell_99 : decode cX12_tell 99 = .ok (.ireturn, 1) := by decide +kernel
theorem dX12_tell_100 : decode cX12_tell 100 = .ok (.aload_n 0, 1) := by decide +kernel
theorem dX12_tell_101 : decode cX12_tell 101 = .ok (.iconst 4, 1) := by decide +kernel
theorem dX12_tell_102 : decode cX12_tell 102 = .ok (.invokevirtual 299, 3) := by decide +kernel
theorem dX12_tell_105 : decode cX12_tell 105 = .ok (.bipush 7, 2) := by decide +kernel
theorem dX12_tell_107 : decode cX12_tell 107 = .ok (.ireturn, 1) := by decide +kernel
theorem dX12_draw_0 : decode cX12_draw 0 = .ok (.aload_n 0, 1) := by decide +kernel
theorem dX12_draw_1 : decode cX12_draw 1 = .ok (.iload_n 1, 1) := by decide +kernel
theorem dX12_draw_2 : decode cX12_draw 2 = .ok (.invokevirtual 160, 3) := by decide +kernel
theorem dX12_draw_5 : decode cX12_draw 5 = .ok (.ifCond .ne 5, 3) := by decide +kernel
theorem dX12_draw_8 : decode cX12_draw 8 = .ok (.iconst (-1), 1) := by decide +kernel
theorem dX12_draw_9 : decode cX12_draw 9 = .ok (.ireturn, 1) := by decide +kernel
theorem dX12_draw_10 : decode cX12_draw 10 = .ok (.aload_n 0, 1) := by decide +kernel
theorem dX12_draw_11 : decode cX12_draw 11 = .ok (.getfield 23, 3) := by decide +kernel
theorem dX12_draw_14 : decode cX12_draw 14 = .ok (.iload_n 1, 1) := by decide +kernel
theorem dX12_draw_15 : decode cX12_draw 15 = .ok (.iaload, 1) := by decide +kernel
theorem dX12_draw_16 : decode cX12_draw 16 = .ok (.iconst 1, 1) := by decide +kernel
theorem dX12_draw_17 : decode cX12_draw 17 = .ok (.if_icmp .ne 7, 3) := by decide +kernel
theorem dX12_draw_20 : decode cX12_draw 20 = .ok (.iconst 1, 1) := by decide +kernel
theorem dX12_draw_21 : decode cX12_draw 21 = .ok (.goto 4, 3) := by decide +kernel
theorem dX12_draw_24 : decode cX12_draw 24 = .ok (.iconst 0, 1) := by decide +kernel
theorem dX12_draw_25 : decode cX12_draw 25 = .ok (.istore_n 2, 1) := by decide +kernel
theorem dX12_draw_26 : decode cX12_draw 26 = .ok (.aload_n 0, 1) := by decide +kernel
theorem dX12_draw_27 : decode cX12_draw 27 = .ok (.iload_n 2, 1) := by decide +kernel
theorem dX12_draw_28 : decode cX12_draw 28 = .ok (.ifCond .eq 8, 3) := by decide +kernel
theorem dX12_draw_31 : decode cX12_draw 31 = .ok (.bipush 6, 2) := by decide +kernel
theorem dX12_draw_33 : decode cX12_draw 33 = .ok (.goto 4, 3) := by decide +kernel
theorem dX12_draw_36 : decode cX12_draw 36 = .ok (.iconst 5, 1) := by decide +kernel
theorem dX12_draw_37 : decode cX12_draw 37 = .ok (.invokevirtual 299, 3) := by decide +kernel
theorem dX12_draw_40 : decode cX12_draw 40 = .ok (.iload_n 2, 1) := by decide +kernel
theorem dX12_draw_41 : decode cX12_draw 41 = .ok (.ifCond .eq 7, 3) := by decide +kernel
theorem dX12_draw_44 : decode cX12_draw 44 = .ok (.iconst 3, 1) := by decide +kernel
theorem dX12_draw_45 : decode cX12_draw 45 = .ok (.goto 12, 3) := by decide +kernel
theorem dX12_draw_48 : decode cX12_draw 48 = .ok (.bipush 100, 2) := by decide +kernel
theorem dX12_draw_50 : decode cX12_draw 50 = .ok (.aload_n 0, 1) := by decide +kernel
theorem dX12_draw_51 : decode cX12_draw 51 = .ok (.getfield 23, 3) := by decide +kernel
theorem dX12_draw_54 : decode cX12_draw 54 = .ok (.iload_n 1, 1) := by decide +kernel
theorem dX12_draw_55 : decode cX12_draw 55 = .ok (.iaload, 1) := by decide +kernel
theorem dX12_draw_56 : decode cX12_draw 56 = .ok (.iadd, 1) := by decide +kernel
theorem dX12_draw_57 : decode cX12_draw 57 = .ok (.ireturn, 1) := by decide +kernel
theorem dX12_as_0 : decode cX12_as 0 = .ok (.aload_n 0, 1) := by decide +kernel
theorem dX12_as_1 : decode cX12_as 1 = .ok (.iconst 0, 1) := by decide +kernel
theorem dX12_as_2 : decode cX12_as 2 = .ok (.putfield 103, 3) := by decide +kernel
theorem dX12_as_5 : decode cX12_as 5 = .ok (.aload_n 0, 1) := by decide +kernel
theorem dX12_as_6 : decode cX12_as 6 = .ok (.iload_n 1, 1) := by decide +kernel
theorem dX12_as_7 : decode cX12_as 7 = .ok (.invokevirtual 160, 3) := by decide +kernel
theorem dX12_as_10 : decode cX12_as 10 = .ok (.ifCond .ne 5, 3) := by decide +kernel
theorem dX12_as_13 : decode cX12_as 13 = .ok (.iconst (-1), 1) := by decide +kernel
theorem dX12_as_14 : decode cX12_as 14 = .ok (.ireturn, 1) := by decide +kernel
theorem dX12_as_15 : decode cX12_as 15 = .ok (.iload_n 2, 1) := by decide +kernel
theorem dX12_as_16 : decode cX12_as 16 = .ok (.i2l, 1) := by decide +kernel
theorem dX12_as_17 : decode cX12_as 17 = .ok (.lconst 0, 1) := by decide +kernel
theorem dX12_as_18 : decode cX12_as 18 = .ok (.ldc2_w 158, 3) := by decide +kernel
theorem dX12_as_21 : decode cX12_as 21 = .ok (.invokestatic 110, 3) := by decide +kernel
theorem dX12_as_24 : decode cX12_as 24 = .ok (.ifCond .ne 6, 3) := by decide +kernel
theorem dX12_as_27 : decode cX12_as 27 = .ok (.bipush (-2), 2) := by decide +kernel
theorem dX12_as_29 : decode cX12_as 29 = .ok (.ireturn, 1) := by decide +kernel
theorem dX12_as_30 : decode cX12_as 30 = .ok (.aload_n 0, 1) := by decide +kernel
theorem dX12_as_31 : decode cX12_as 31 = .ok (.getfield 23, 3) := by decide +kernel
theorem dX12_as_34 : decode cX12_as 34 = .ok (.iload_n 1, 1) := by decide +kernel
theorem dX12_as_35 : decode cX12_as 35 = .ok (.iaload, 1) := by decide +kernel
theorem dX12_as_36 : decode cX12_as 36 = .ok (.istore_n 3, 1) := by decide +kernel
theorem dX12_as_37 : decode cX12_as 37 = .ok (.iload_n 2, 1) := by decide +kernel
theorem dX12_as_38 : decode cX12_as 38 = .ok (.iload_n 3, 1) := by decide +kernel
theorem dX12_as_39 : decode cX12_as 39 = .ok (.if_icmp .eq 27, 3) := by decide +kernel
theorem dX12_as_42 : decode cX12_as 42 = .ok (.iload_n 2, 1) := by decide +kernel
theorem dX12_as_43 : decode cX12_as 43 = .ok (.ifCond .ne 13, 3) := by decide +kernel
theorem dX12_as_46 : decode cX12_as 46 = .ok (.iload_n 3, 1) := by decide +kernel
theorem dX12_as_47 : decode cX12_as 47 = .ok (.iconst 1, 1) := by decide +kernel
theorem dX12_as_48 : decode cX12_as 48 = .ok (.if_icmp .eq 18, 3) := by decide +kernel
theorem dX12_as_51 : decode cX12_as 51 = .ok (.iload_n 3, 1) := by decide +kernel
theorem dX12_as_52 : decode cX12_as 52 = .ok (.iconst 2, 1) := by decide +kernel
theorem dX12_as_53 : decode cX12_as 53 = .ok (.if_icmp .eq 13, 3) := by decide +kernel
theorem dX12_as_56 : decode cX12_as 56 = .ok (.iload_n 2, 1) := by decide +kernel
theorem dX12_as_57 : decode cX12_as 57 = .ok (.iconst 3, 1) := by decide +kernel
theorem dX12_as_58 : decode cX12_as 58 = .ok (.if_icmp .ne 12, 3) := by decide +kernel
theorem dX12_as_61 : decode cX12_as 61 = .ok (.iload_n 3, 1) := by decide +kernel
theorem dX12_as_62 : decode cX12_as 62 = .ok (.iconst 4, 1) := by decide +kernel
theorem dX12_as_63 : decode cX12_as 63 = .ok (.if_icmp .ne 7, 3) := by decide +kernel
theorem dX12_as_66 : decode cX12_as 66 = .ok (.iconst 1, 1) := by decide +kernel
theorem dX12_as_67 : decode cX12_as 67 = .ok (.goto 4, 3) := by decide +kernel
theorem dX12_as_70 : decode cX12_as 70 = .ok (.iconst 0, 1) := by decide +kernel
theorem dX12_as_71 : decode cX12_as 71 = .ok (.istore 4, 2) := by decide +kernel
theorem dX12_as_73 : decode cX12_as 73 = .ok (.iload 4, 2) := by decide +kernel
theorem dX12_as_75 : decode cX12_as 75 = .ok (.ifCond .eq 7, 3) := by decide +kernel
theorem dX12_as_78 : decode cX12_as 78 = .ok (.iconst 1, 1) := by decide +kernel
theorem dX12_as_79 : decode cX12_as 79 = .ok (.goto 8, 3) := by decide +kernel
theorem dX12_as_82 : decode cX12_as 82 = .ok (.aload_n 0, 1) := by decide +kernel
theorem dX12_as_83 : decode cX12_as 83 = .ok (.iconst 2, 1) := by decide +kernel
theorem dX12_as_84 : decode cX12_as 84 = .ok (.invokevirtual 154, 3) := by decide +kernel
theorem dX12_as_87 : decode cX12_as 87 = .ok (.ireturn, 1) := by decide +kernel
theorem dX12_trace_0 : decode cX12_trace 0 = .ok (.aload_n 0, 1) := by decide +kernel
theorem dX12_trace_1 : decode cX12_trace 1 = .ok (.getfield 296, 3) := by decide +kernel
theorem dX12_trace_4 : decode cX12_trace 4 = .ok (.ireturn, 1) := by decide +kernel
theorem dX12_fault_0 : decode cX12_fault 0 = .ok (.aload_n 0, 1) := by decide +kernel
theorem dX12_fault_1 : decode cX12_fault 1 = .ok (.getfield 103, 3) := by decide +kernel
theorem dX12_fault_4 : decode cX12_fault 4 = .ok (.ireturn, 1) := by decide +kernel
theorem dJ6_compare_7cf53_0 : decode cJ6_compare_7cf53 0 = .ok (.iload_n 0, 1) := by decide +kernel
theorem dJ6_compare_7cf53_1 : decode cJ6_compare_7cf53 1 = .ok (.iload_n 1, 1) := by decide +kernel
theorem dJ6_compare_7cf53_2 : decode cJ6_compare_7cf53 2 = .ok (.if_icmp .ge 7, 3) := by decide +kernel
theorem dJ6_compare_7cf53_5 : decode cJ6_compare_7cf53 5 = .ok (.iconst (-1), 1) := by decide +kernel
theorem dJ6_compare_7cf53_6 : decode cJ6_compare_7cf53 6 = .ok (.goto 13, 3) := by decide +kernel
theorem dJ6_compare_7cf53_9 : decode cJ6_compare_7cf53 9 = .ok (.iload_n 0, 1) := by decide +kernel
theorem dJ6_compare_7cf53_10 : decode cJ6_compare_7cf53 10 = .ok (.iload_n 1, 1) := by decide +kernel
theorem dJ6_compare_7cf53_11 : decode cJ6_compare_7cf53 11 = .ok (.if_icmp .ne 7, 3) := by decide +kernel
theorem dJ6_compare_7cf53_14 : decode cJ6_compare_7cf53 14 = .ok (.iconst 0, 1) := by decide +kernel
theorem dJ6_compare_7cf53_15 : decode cJ6_compare_7cf53 15 = .ok (.goto 4, 3) := by decide +kernel
theorem dJ6_compare_7cf53_18 : decode cJ6_compare_7cf53 18 = .ok (.iconst 1, 1) := by decide +kernel
theorem dJ6_compare_7cf53_19 : decode cJ6_compare_7cf53 19 = .ok (.ireturn, 1) := by decide +kernel
theorem dJ9_abs_067f4_0 : decode cJ9_abs_067f4 0 = .ok (.lload_n 0, 1) := by decide +kernel
theorem dJ9_abs_067f4_1 : decode cJ9_abs_067f4 1 = .ok (.lconst 0, 1) := by decide +kernel
theorem dJ9_abs_067f4_2 : decode cJ9_abs_067f4 2 = .ok (.lcmp, 1) := by decide +kernel
theorem dJ9_abs_067f4_3 : decode cJ9_abs_067f4 3 = .ok (.ifCond .ge 8, 3) := by decide +kernel
theorem dJ9_abs_067f4_6 : decode cJ9_abs_067f4 6 = .ok (.lload_n 0, 1) := by decide +kernel
theorem dJ9_abs_067f4_7 : decode cJ9_abs_067f4 7 = .ok (.lneg, 1) := by decide +kernel
theorem dJ9_abs_067f4_8 : decode cJ9_abs_067f4 8 = .ok (.goto 4, 3) := by decide +kernel
theorem dJ9_abs_067f4_11 : decode cJ9_abs_067f4 11 = .ok (.lload_n 0, 1) := by decide +kernel
theorem dJ9_abs_067f4_12 : decode cJ9_abs_067f4 12 = .ok (.lreturn, 1) := by decide +kernel
theorem dJ9_max_7cf53_0 : decode cJ9_max_7cf53 0 = .ok (.iload_n 0, 1) := by decide +kernel
theorem dJ9_max_7cf53_1 : decode cJ9_max_7cf53 1 = .ok (.iload_n 1, 1) := by decide +kernel
theorem dJ9_max_7cf53_2 : decode cJ9_max_7cf53 2 = .ok (.if_icmp .lt 7, 3) := by decide +kernel
theorem dJ9_max_7cf53_5 : decode cJ9_max_7cf53 5 = .ok (.iload_n 0, 1) := by decide +kernel
theorem dJ9_max_7cf53_6 : decode cJ9_max_7cf53 6 = .ok (.goto 4, 3) := by decide +kernel
theorem dJ9_max_7cf53_9 : decode cJ9_max_7cf53 9 = .ok (.iload_n 1, 1) := by decide +kernel
theorem dJ9_max_7cf53_10 : decode cJ9_max_7cf53 10 = .ok (.ireturn, 1) := by decide +kernel
theorem dJ9_max_f86c9_0 : decode cJ9_max_f86c9 0 = .ok (.lload_n 0, 1) := by decide +kernel
theorem dJ9_max_f86c9_1 : decode cJ9_max_f86c9 1 = .ok (.lload_n 2, 1) := by decide +kernel
theorem dJ9_max_f86c9_2 : decode cJ9_max_f86c9 2 = .ok (.lcmp, 1) := by decide +kernel
theorem dJ9_max_f86c9_3 : decode cJ9_max_f86c9 3 = .ok (.ifCond .lt 7, 3) := by decide +kernel
theorem dJ9_max_f86c9_6 : decode cJ9_max_f86c9 6 = .ok (.lload_n 0, 1) := by decide +kernel
theorem dJ9_max_f86c9_7 : decode cJ9_max_f86c9 7 = .ok (.goto 4, 3) := by decide +kernel
theorem dJ9_max_f86c9_10 : decode cJ9_max_f86c9 10 = .ok (.lload_n 2, 1) := by decide +kernel
theorem dJ9_max_f86c9_11 : decode cJ9_max_f86c9 11 = .ok (.lreturn, 1) := by decide +kernel
theorem dJ9_min_7cf53_0 : decode cJ9_min_7cf53 0 = .ok (.iload_n 0, 1) := by decide +kernel
theorem dJ9_min_7cf53_1 : decode cJ9_min_7cf53 1 = .ok (.iload_n 1, 1) := by decide +kernel
theorem dJ9_min_7cf53_2 : decode cJ9_min_7cf53 2 = .ok (.if_icmp .gt 7, 3) := by decide +kernel
theorem dJ9_min_7cf53_5 : decode cJ9_min_7cf53 5 = .ok (.iload_n 0, 1) := by decide +kernel
theorem dJ9_min_7cf53_6 : decode cJ9_min_7cf53 6 = .ok (.goto 4, 3) := by decide +kernel
theorem dJ9_min_7cf53_9 : decode cJ9_min_7cf53 9 = .ok (.iload_n 1, 1) := by decide +kernel
theorem dJ9_min_7cf53_10 : decode cJ9_min_7cf53 10 = .ok (.ireturn, 1) := by decide +kernel
theorem dJ9_min_f86c9_0 : decode cJ9_min_f86c9 0 = .ok (.lload_n 0, 1) := by decide +kernel
theorem dJ9_min_f86c9_1 : decode cJ9_min_f86c9 1 = .ok (.lload_n 2, 1) := by decide +kernel
theorem dJ9_min_f86c9_2 : decode cJ9_min_f86c9 2 = .ok (.lcmp, 1) := by decide +kernel
theorem dJ9_min_f86c9_3 : decode cJ9_min_f86c9 3 = .ok (.ifCond .gt 7, 3) := by decide +kernel
theorem dJ9_min_f86c9_6 : decode cJ9_min_f86c9 6 = .ok (.lload_n 0, 1) := by decide +kernel
theorem dJ9_min_f86c9_7 : decode cJ9_min_f86c9 7 = .ok (.goto 4, 3) := by decide +kernel
theorem dJ9_min_f86c9_10 : decode cJ9_min_f86c9 10 = .ok (.lload_n 2, 1) := by decide +kernel
theorem dJ9_min_f86c9_11 : decode cJ9_min_f86c9 11 = .ok (.lreturn, 1) := by decide +kernel
theorem dL_law_0 : decode cL_law 0 = .ok (.new 7, 3) := by decide +kernel
theorem dL_law_3 : decode cL_law 3 = .ok (.dup, 1) := by decide +kernel
theorem dL_law_4 : decode cL_law 4 = .ok (.invokespecial 9, 3) := by decide +kernel
theorem dL_law_7 : decode cL_law 7 = .ok (.astore_n 1, 1) := by decide +kernel
theorem dL_law_8 : decode cL_law 8 = .ok (.new 10, 3) := by decide +kernel
theorem dL_law_11 : decode cL_law 11 = .ok (.dup, 1) := by decide +kernel
theorem dL_law_12 : decode cL_law 12 = .ok (.invokespecial 12, 3) := by decide +kernel
theorem dL_law_15 : decode cL_law 15 = .ok (.astore_n 2, 1) := by decide +kernel
theorem dL_law_16 : decode cL_law 16 = .ok (.iconst 0, 1) := by decide +kernel
theorem dL_law_17 : decode cL_law 17 = .ok (.istore_n 3, 1) := by decide +kernel
theorem dL_law_18 : decode cL_law 18 = .ok (.iload_n 3, 1) := by decide +kernel
theorem dL_law_19 : decode cL_law 19 = .ok (.aload_n 0, 1) := by decide +kernel
theorem dL_law_20 : decode cL_law 20 = .ok (.arraylength, 1) := by decide +kernel
theorem dL_law_21 : decode cL_law 21 = .ok (.bipush 6, 2) := by decide +kernel
theorem dL_law_23 : decode cL_law 23 = .ok (.isub, 1) := by decide +kernel
theorem dL_law_24 : decode cL_law 24 = .ok (.if_icmp .gt 1186, 3) := by decide +kernel
theorem dL_law_27 : decode cL_law 27 = .ok (.aload_n 0, 1) := by decide +kernel
theorem dL_law_28 : decode cL_law 28 = .ok (.iload_n 3, 1) := by decide +kernel
theorem dL_law_29 : decode cL_law 29 = .ok (.iaload, 1) := by decide +kernel
theorem dL_law_30 : decode cL_law 30 = .ok (.bipush 63, 2) := by decide +kernel
theorem dL_law_32 : decode cL_law 32 = .ok (.iand, 1) := by decide +kernel
theorem dL_law_33 : decode cL_law 33 = .ok (.tableswitch 1171 0 32 #[147, 180, 214, 237, 290, 343, 356, 389, 402, 425, 438, 451, 474, 507, 530, 593, 626, 669, 722, 745, 779, 812, 856, 879, 913, 956, 979, 1022, 1066, 1089, 1112, 1145, 1158], 147) := by decide +kernel
theorem dL_law_180 : decode cL_law 180 = .ok (.aload_n 1, 1) := by decide +kernel
theorem dL_law_181 : decode cL_law 181 = .ok (.aload_n 0, 1) := by decide +kernel
theorem dL_law_182 : decode cL_law 182 = .ok (.iload_n 3, 1) := by decide +kernel
theorem dL_law_183 : decode cL_law 183 = .ok (.iconst 1, 1) := by decide +kernel
theorem dL_law_184 : decode cL_law 184 = .ok (.iadd, 1) := by decide +kernel
theorem dL_law_185 : decode cL_law 185 = .ok (.iaload, 1) := by decide +kernel
theorem dL_law_186 : decode cL_law 186 = .ok (.aload_n 0, 1) := by decide +kernel
theorem dL_law_187 : decode cL_law 187 = .ok (.iload_n 3, 1) := by decide +kernel
theorem dL_law_188 : decode cL_law 188 = .ok (.iconst 2, 1) := by decide +kernel
theorem dL_law_189 : decode cL_law 189 = .ok (.iadd, 1) := by decide +kernel
theorem dL_law_190 : decode cL_law 190 = .ok (.iaload, 1) := by decide +kernel
theorem dL_law_191 : decode cL_law 191 = .ok (.invokevirtual 13, 3) := by decide +kernel
theorem dL_law_194 : decode cL_law 194 = .ok (.aload_n 2, 1) := by decide +kernel
theorem dL_law_195 : decode cL_law 195 = .ok (.aload_n 0, 1) := by decide +kernel
theorem dL_law_196 : decode cL_law 196 = .ok (.iload_n 3, 1) := by decide +kernel
theorem dL_law_197 : decode cL_law 197 = .ok (.iconst 1, 1) := by decide +kernel
theorem dL_law_198 : decode cL_law 198 = .ok (.iadd, 1) := by decide +kernel
theorem dL_law_199 : decode cL_law 199 = .ok (.iaload, 1) := by decide +kernel
theorem dL_law_200 : decode cL_law 200 = .ok (.aload_n 0, 1) := by decide +kernel
theorem dL_law_201 : decode cL_law 201 = .ok (.iload_n 3, 1) := by decide +kernel
theorem dL_law_202 : decode cL_law 202 = .ok (.iconst 2, 1) := by decide +kernel
theorem dL_law_203 : decode cL_law 203 = .ok (.iadd, 1) := by decide +kernel
theorem dL_law_204 : decode cL_law 204 = .ok (.iaload, 1) := by decide +kernel
theorem dL_law_205 : decode cL_law 205 = .ok (.invokevirtual 17, 3) := by decide +kernel
theorem dL_law_208 : decode cL_law 208 = .ok (.if_icmp .eq 996, 3) := by decide +kernel
theorem dL_law_211 : decode cL_law 211 = .ok (.iconst 0, 1) := by decide +kernel
theorem dL_law_212 : decode cL_law 212 = .ok (.ireturn, 1) := by decide +kernel
theorem dL_law_213 : decode cL_law 213 = .ok (.aload_n 1, 1) := by decide +kernel
theorem dL_law_214 : decode cL_law 214 = .ok (.aload_n 0, 1) := by decide +kernel
theorem dL_law_215 : decode cL_law 215 = .ok (.iload_n 3, 1) := by decide +kernel
theorem dL_law_216 : decode cL_law 216 = .ok (.iconst 1, 1) := by decide +kernel
theorem dL_law_217 : decode cL_law 217 = .ok (.iadd, 1) := by decide +kernel
theorem dL_law_218 : decode cL_law 218 = .ok (.iaload, 1) := by decide +kernel
theorem dL_law_219 : decode cL_law 219 = .ok (.aload_n 0, 1) := by decide +kernel
theorem dL_law_220 : decode cL_law 220 = .ok (.iload_n 3, 1) := by decide +kernel
theorem dL_law_221 : decode cL_law 221 = .ok (.iconst 2, 1) := by decide +kernel
theorem dL_law_222 : decode cL_law 222 = .ok (.iadd, 1) := by decide +kernel
theorem dL_law_223 : decode cL_law 223 = .ok (.iaload, 1) := by decide +kernel
theorem dL_law_224 : decode cL_law 224 = .ok (.invokevirtual 18, 3) := by decide +kernel
theorem dL_law_227 : decode cL_law 227 = .ok (.aload_n 2, 1) := by decide +kernel
theorem dL_law_228 : decode cL_law 228 = .ok (.aload_n 0, 1) := by decide +kernel
theorem dL_law_229 : decode cL_law 229 = .ok (.iload_n 3, 1) := by decide +kernel
theorem dL_law_230 : decode cL_law 230 = .ok (.iconst 1, 1) := by decide +kernel
theorem dL_law_231 : decode cL_law 231 = .ok (.iadd, 1) := by decide +kernel
theorem dL_law_232 : decode cL_law 232 = .ok (.iaload, 1) := by decide +kernel
theorem dL_law_233 : decode cL_law 233 = .ok (.aload_n 0, 1) := by decide +kernel
theorem dL_law_234 : decode cL_law 234 = .ok (.iload_n 3, 1) := by decide +kernel
theorem dL_law_235 : decode cL_law 235 = .ok (.iconst 2, 1) := by decide +kernel
theorem dL_law_236 : decode cL_law 236 = .ok (.iadd, 1) := by decide +kernel
theorem dL_law_237 : decode cL_law 237 = .ok (.iaload, 1) := by decide +kernel
theorem dL_law_238 : decode cL_law 238 = .ok (.invokevirtual 22, 3) := by decide +kernel
theorem dL_law_241 : decode cL_law 241 = .ok (.lcmp, 1) := by decide +kernel
theorem dL_law_242 : decode cL_law 242 = .ok (.ifCond .eq 962, 3) := by decide +kernel
theorem dL_law_245 : decode cL_law 245 = .ok (.iconst 0, 1) := by decide +kernel
theorem dL_law_246 : decode cL_law 246 = .ok (.ireturn, 1) := by decide +kernel
theorem dL_law_247 : decode cL_law 247 = .ok (.aload_n 1, 1) := by decide +kernel
theorem dL_law_248 : decode cL_law 248 = .ok (.aload_n 0, 1) := by decide +kernel
theorem dL_law_249 : decode cL_law 249 = .ok (.iload_n 3, 1) := by decide +kernel
theorem dL_law_250 : decode cL_law 250 = .ok (.iconst 1, 1) := by decide +kernel
theorem dL_law_251 : decode cL_law 251 = .ok (.iadd, 1) := by decide +kernel
theorem dL_law_252 : decode cL_law 252 = .ok (.iaload, 1) := by decide +kernel
theorem dL_law_253 : decode cL_law 253 = .ok (.invokevirtual 23, 3) := by decide +kernel
theorem dL_law_256 : decode cL_law 256 = .ok (.aload_n 2, 1) := by decide +kernel
theorem dL_law_257 : decode cL_law 257 = .ok (.aload_n 0, 1) := by decide +kernel
theorem dL_law_258 : decode cL_law 258 = .ok (.iload_n 3, 1) := by decide +kernel
theorem dL_law_259 : decode cL_law 259 = .ok (.iconst 1, 1) := by decide +kernel
theorem dL_law_260 : decode cL_law 260 = .ok (.iadd, 1) := by decide +kernel
theorem dL_law_261 : decode cL_law 261 = .ok (.iaload, 1) := by decide +kernel
theorem dL_law_262 : decode cL_law 262 = .ok (.invokevirtual 27, 3) := by decide +kernel
theorem dL_law_265 : decode cL_law 265 = .ok (.if_icmp .eq 939, 3) := by decide +kernel
theorem dL_law_268 : decode cL_law 268 = .ok (.iconst 0, 1) := by decide +kernel
theorem dL_law_269 : decode cL_law 269 = .ok (.ireturn, 1) := by decide +kernel
theorem dL_law_270 : decode cL_law 270 = .ok (.aload_n 1, 1) := by decide +kernel
theorem dL_law_271 : decode cL_law 271 = .ok (.aload_n 0, 1) := by decide +kernel
theorem dL_law_272 : decode cL_law 272 = .ok (.iload_n 3, 1) := by decide +kernel
theorem dL_law_273 : decode cL_law 273 = .ok (.iconst 1, 1) := by decide +kernel
theorem dL_law_274 : decode cL_law 274 = .ok (.iadd, 1) := by decide +kernel
theorem dL_law_275 : decode cL_law 275 = .ok (.iaload, 1) := by decide +kernel
theorem dL_law_276 : decode cL_law 276 = .ok (.aload_n 0, 1) := by decide +kernel
theorem dL_law_277 : decode cL_law 277 = .ok (.iload_n 3, 1) := by decide +kernel
theorem dL_law_278 : decode cL_law 278 = .ok (.iconst 2, 1) := by decide +kernel
theorem dL_law_279 : decode cL_law 279 = .ok (.iadd, 1) := by decide +kernel
theorem dL_law_280 : decode cL_law 280 = .ok (.iaload, 1) := by decide +kernel
theorem dL_law_281 : decode cL_law 281 = .ok (.aload_n 0, 1) := by decide +kernel
theorem dL_law_282 : decode cL_law 282 = .ok (.iload_n 3, 1) := by decide +kernel
theorem dL_law_283 : decode cL_law 283 = .ok (.iconst 3, 1) := by decide +kernel
theorem dL_law_284 : decode cL_law 284 = .ok (.iadd, 1) := by decide +kernel
theorem dL_law_285 : decode cL_law 285 = .ok (.iaload, 1) := by decide +kernel
theorem dL_law_286 : decode cL_law 286 = .ok (.aload_n 0, 1) := by decide +kernel
theorem dL_law_287 : decode cL_law 287 = .ok (.iload_n 3, 1) := by decide +kernel
theorem dL_law_288 : decode cL_law 288 = .ok (.iconst 4, 1) := by decide +kernel
theorem dL_law_289 : decode cL_law 289 = .ok (.iadd, 1) := by decide +kernel
theorem dL_law_290 : decode cL_law 290 = .ok (.iaload, 1) := by decide +kernel
theorem dL_law_291 : decode cL_law 291 = .ok (.invokevirtual 28, 3) := by decide +kernel
theorem dL_law_294 : decode cL_law 294 = .ok (.aload_n 2, 1) := by decide +kernel
theorem dL_law_295 : decode cL_law 295 = .ok (.aload_n 0, 1) := by decide +kernel
theorem dL_law_296 : decode cL_law 296 = .ok (.iload_n 3, 1) := by decide +kernel
theorem dL_law_297 : decode cL_law 297 = .ok (.iconst 1, 1) := by decide +kernel
theorem dL_law_298 : decode cL_law 298 = .ok (.iadd, 1) := by decide +kernel
theorem dL_law_299 : decode cL_law 299 = .ok (.iaload, 1) := by decide +kernel
theorem dL_law_300 : decode cL_law 300 = .ok (.aload_n 0, 1) := by decide +kernel
theorem dL_law_301 : decode cL_law 301 = .ok (.iload_n 3, 1) := by decide +kernel
theorem dL_law_302 : decode cL_law 302 = .ok (.iconst 2, 1) := by decide +kernel
theorem dL_law_303 : decode cL_law 303 = .ok (.iadd, 1) := by decide +kernel
theorem dL_law_304 : decode cL_law 304 = .ok (.iaload, 1) := by decide +kernel
theorem dL_law_305 : decode cL_law 305 = .ok (.aload_n 0, 1) := by decide +kernel
theorem dL_law_306 : decode cL_law 306 = .ok (.iload_n 3, 1) := by decide +kernel
theorem dL_law_307 : decode cL_law 307 = .ok (.iconst 3, 1) := by decide +kernel
theorem dL_law_308 : decode cL_law 308 = .ok (.iadd, 1) := by decide +kernel
theorem dL_law_309 : decode cL_law 309 = .ok (.iaload, 1) := by decide +kernel
theorem dL_law_310 : decode cL_law 310 = .ok (.aload_n 0, 1) := by decide +kernel
theorem dL_law_311 : decode cL_law 311 = .ok (.iload_n 3, 1) := by decide +kernel
theorem dL_law_312 : decode cL_law 312 = .ok (.iconst 4, 1) := by decide +kernel
theorem dL_law_313 : decode cL_law 313 = .ok (.iadd, 1) := by decide +kernel
theorem dL_law_314 : decode cL_law 314 = .ok (.iaload, 1) := by decide +kernel
theorem dL_law_315 : decode cL_law 315 = .ok (.invokevirtual 32, 3) := by decide +kernel
theorem dL_law_318 : decode cL_law 318 = .ok (.if_icmp .eq 886, 3) := by decide +kernel
theorem dL_law_321 : decode cL_law 321 = .ok (.iconst 0, 1) := by decide +kernel
theorem dL_law_322 : decode cL_law 322 = .ok (.ireturn, 1) := by decide +kernel
theorem dL_law_323 : decode cL_law 323 = .ok (.aload_n 1, 1) := by decide +kernel
theorem dL_law_324 : decode cL_law 324 = .ok (.aload_n 0, 1) := by decide +kernel
theorem dL_law_325 : decode cL_law 325 = .ok (.iload_n 3, 1) := by decide +kernel
theorem dL_law_326 : decode cL_law 326 = .ok (.iconst 1, 1) := by decide +kernel
theorem dL_law_327 : decode cL_law 327 = .ok (.iadd, 1) := by decide +kernel
theorem dL_law_328 : decode cL_law 328 = .ok (.iaload, 1) := by decide +kernel
theorem dL_law_329 : decode cL_law 329 = .ok (.aload_n 0, 1) := by decide +kernel
theorem dL_law_330 : decode cL_law 330 = .ok (.iload_n 3, 1) := by decide +kernel
theorem dL_law_331 : decode cL_law 331 = .ok (.iconst 2, 1) := by decide +kernel
theorem dL_law_332 : decode cL_law 332 = .ok (.iadd, 1) := by decide +kernel
theorem dL_law_333 : decode cL_law 333 = .ok (.iaload, 1) := by decide +kernel
theorem dL_law_334 : decode cL_law 334 = .ok (.aload_n 0, 1) := by decide +kernel
theorem dL_law_335 : decode cL_law 335 = .ok (.iload_n 3, 1) := by decide +kernel
theorem dL_law_336 : decode cL_law 336 = .ok (.iconst 3, 1) := by decide +kernel
theorem dL_law_337 : decode cL_law 337 = .ok (.iadd, 1) := by decide +kernel
theorem dL_law_338 : decode cL_law 338 = .ok (.iaload, 1) := by decide +kernel
theorem dL_law_339 : decode cL_law 339 = .ok (.aload_n 0, 1) := by decide +kernel
theorem dL_law_340 : decode cL_law 340 = .ok (.iload_n 3, 1) := by decide +kernel
theorem dL_law_341 : decode cL_law 341 = .ok (.iconst 4, 1) := by decide +kernel
theorem dL_law_342 : decode cL_law 342 = .ok (.iadd, 1) := by decide +kernel
theorem dL_law_343 : decode cL_law 343 = .ok (.iaload, 1) := by decide +kernel
theorem dL_law_344 : decode cL_law 344 = .ok (.invokevirtual 33, 3) := by decide +kernel
theorem dL_law_347 : decode cL_law 347 = .ok (.aload_n 2, 1) := by decide +kernel
theorem dL_law_348 : decode cL_law 348 = .ok (.aload_n 0, 1) := by decide +kernel
theorem dL_law_349 : decode cL_law 349 = .ok (.iload_n 3, 1) := by decide +kernel
theorem dL_law_350 : decode cL_law 350 = .ok (.iconst 1, 1) := by decide +kernel
theorem dL_law_351 : decode cL_law 351 = .ok (.iadd, 1) := by decide +kernel
theorem dL_law_352 : decode cL_law 352 = .ok (.iaload, 1) := by decide +kernel
theorem dL_law_353 : decode cL_law 353 = .ok (.aload_n 0, 1) := by decide +kernel
theorem dL_law_354 : decode cL_law 354 = .ok (.iload_n 3, 1) := by decide +kernel
theorem dL_law_355 : decode cL_law 355 = .ok (.iconst 2, 1) := by decide +kernel
theorem dL_law_356 : decode cL_law 356 = .ok (.iadd, 1) := by decide +kernel
theorem dL_law_357 : decode cL_law 357 = .ok (.iaload, 1) := by decide +kernel
theorem dL_law_358 : decode cL_law 358 = .ok (.aload_n 0, 1) := by decide +kernel
theorem dL_law_359 : decode cL_law 359 = .ok (.iload_n 3, 1) := by decide +kernel
theorem dL_law_360 : decode cL_law 360 = .ok (.iconst 3, 1) := by decide +kernel
theorem dL_law_361 : decode cL_law 361 = .ok (.iadd, 1) := by decide +kernel
theorem dL_law_362 : decode cL_law 362 = .ok (.iaload, 1) := by decide +kernel
theorem dL_law_363 : decode cL_law 363 = .ok (.aload_n 0, 1) := by decide +kernel
theorem dL_law_364 : decode cL_law 364 = .ok (.iload_n 3, 1) := by decide +kernel
theorem dL_law_365 : decode cL_law 365 = .ok (.iconst 4, 1) := by decide +kernel
theorem dL_law_366 : decode cL_law 366 = .ok (.iadd, 1) := by decide +kernel
theorem dL_law_367 : decode cL_law 367 = .ok (.iaload, 1) := by decide +kernel
theorem dL_law_368 : decode cL_law 368 = .ok (.invokevirtual 36, 3) := by decide +kernel
theorem dL_law_371 : decode cL_law 371 = .ok (.if_icmp .eq 833, 3) := by decide +kernel
theorem dL_law_374 : decode cL_law 374 = .ok (.iconst 0, 1) := by decide +kernel
theorem dL_law_375 : decode cL_law 375 = .ok (.ireturn, 1) := by decide +kernel
theorem dL_law_376 : decode cL_law 376 = .ok (.aload_n 1, 1) := by decide +kernel
theorem dL_law_377 : decode cL_law 377 = .ok (.invokevirtual 37, 3) := by decide +kernel
theorem dL_law_380 : decode cL_law 380 = .ok (.aload_n 2, 1) := by decide +kernel
theorem dL_law_381 : decode cL_law 381 = .ok (.invokevirtual 41, 3) := by decide +kernel
theorem dL_law_384 : decode cL_law 384 = .ok (.if_icmp .eq 820, 3) := by decide +kernel
theorem dL_law_387 : decode cL_law 387 = .ok (.iconst 0, 1) := by decide +kernel
theorem dL_law_388 : decode cL_law 388 = .ok (.ireturn, 1) := by decide +kernel
theorem dL_law_389 : decode cL_law 389 = .ok (.aload_n 1, 1) := by decide +kernel
theorem dL_law_390 : decode cL_law 390 = .ok (.aload_n 0, 1) := by decide +kernel
theorem dL_law_391 : decode cL_law 391 = .ok (.iload_n 3, 1) := by decide +kernel
theorem dL_law_392 : decode cL_law 392 = .ok (.iconst 1, 1) := by decide +kernel
theorem dL_law_393 : decode cL_law 393 = .ok (.iadd, 1) := by decide +kernel
theorem dL_law_394 : decode cL_law 394 = .ok (.iaload, 1) := by decide +kernel
theorem dL_law_395 : decode cL_law 395 = .ok (.aload_n 0, 1) := by decide +kernel
theorem dL_law_396 : decode cL_law 396 = .ok (.iload_n 3, 1) := by decide +kernel
theorem dL_law_397 : decode cL_law 397 = .ok (.iconst 2, 1) := by decide +kernel
theorem dL_law_398 : decode cL_law 398 = .ok (.iadd, 1) := by decide +kernel
theorem dL_law_399 : decode cL_law 399 = .ok (.iaload, 1) := by decide +kernel
theorem dL_law_400 : decode cL_law 400 = .ok (.invokevirtual 42, 3) := by decide +kernel
theorem dL_law_403 : decode cL_law 403 = .ok (.aload_n 2, 1) := by decide +kernel
theorem dL_law_404 : decode cL_law 404 = .ok (.aload_n 0, 1) := by decide +kernel
theorem dL_law_405 : decode cL_law 405 = .ok (.iload_n 3, 1) := by decide +kernel
theorem dL_law_406 : decode cL_law 406 = .ok (.iconst 1, 1) := by decide +kernel
theorem dL_law_407 : decode cL_law 407 = .ok (.iadd, 1) := by decide +kernel
theorem dL_law_408 : decode cL_law 408 = .ok (.iaload, 1) := by decide +kernel
theorem dL_law_409 : decode cL_law 409 = .ok (.aload_n 0, 1) := by decide +kernel
theorem dL_law_410 : decode cL_law 410 = .ok (.iload_n 3, 1) := by decide +kernel
theorem dL_law_411 : decode cL_law 411 = .ok (.iconst 2, 1) := by decide +kernel
theorem dL_law_412 : decode cL_law 412 = .ok (.iadd, 1) := by decide +kernel
theorem dL_law_413 : decode cL_law 413 = .ok (.iaload, 1) := by decide +kernel
theorem dL_law_414 : decode cL_law 414 = .ok (.invokevirtual 45, 3) := by decide +kernel
theorem dL_law_417 : decode cL_law 417 = .ok (.if_icmp .eq 787, 3) := by decide +kernel
theorem dL_law_420 : decode cL_law 420 = .ok (.iconst 0, 1) := by decide +kernel
theorem dL_law_421 : decode cL_law 421 = .ok (.ireturn, 1) := by decide +kernel
theorem dL_law_422 : decode cL_law 422 = .ok (.aload_n 1, 1) := by decide +kernel
theorem dL_law_423 : decode cL_law 423 = .ok (.invokevirtual 46, 3) := by decide +kernel
theorem dL_law_426 : decode cL_law 426 = .ok (.aload_n 2, 1) := by decide +kernel
theorem dL_law_427 : decode cL_law 427 = .ok (.invokevirtual 49, 3) := by decide +kernel
theorem dL_law_430 : decode cL_law 430 = .ok (.if_icmp .eq 774, 3) := by decide +kernel
theorem dL_law_433 : decode cL_law 433 = .ok (.iconst 0, 1) := by decide +kernel
theorem dL_law_434 : decode cL_law 434 = .ok (.ireturn, 1) := by decide +kernel
theorem dL_law_435 : decode cL_law 435 = .ok (.aload_n 1, 1) := by decide +kernel
theorem dL_law_436 : decode cL_law 436 = .ok (.aload_n 0, 1) := by decide +kernel
theorem dL_law_437 : decode cL_law 437 = .ok (.iload_n 3, 1) := by decide +kernel
theorem dL_law_438 : decode cL_law 438 = .ok (.iconst 1, 1) := by decide +kernel
theorem dL_law_439 : decode cL_law 439 = .ok (.iadd, 1) := by decide +kernel
theorem dL_law_440 : decode cL_law 440 = .ok (.iaload, 1) := by decide +kernel
theorem dL_law_441 : decode cL_law 441 = .ok (.invokevirtual 50, 3) := by decide +kernel
theorem dL_law_444 : decode cL_law 444 = .ok (.aload_n 2, 1) := by decide +kernel
theorem dL_law_445 : decode cL_law 445 = .ok (.aload_n 0, 1) := by decide +kernel
theorem dL_law_446 : decode cL_law 446 = .ok (.iload_n 3, 1) := by decide +kernel
theorem dL_law_447 : decode cL_law 447 = .ok (.iconst 1, 1) := by decide +kernel
theorem dL_law_448 : decode cL_law 448 = .ok (.iadd, 1) := by decide +kernel
theorem dL_law_449 : decode cL_law 449 = .ok (.iaload, 1) := by decide +kernel
theorem dL_law_450 : decode cL_law 450 = .ok (.invokevirtual 53, 3) := by decide +kernel
theorem dL_law_453 : decode cL_law 453 = .ok (.if_icmp .eq 751, 3) := by decide +kernel
theorem dL_law_456 : decode cL_law 456 = .ok (.iconst 0, 1) := by decide +kernel
theorem dL_law_457 : decode cL_law 457 = .ok (.ireturn, 1) := by decide +kernel
theorem dL_law_458 : decode cL_law 458 = .ok (.aload_n 1, 1) := by decide +kernel
theorem dL_law_459 : decode cL_law 459 = .ok (.invokevirtual 54, 3) := by decide +kernel
theorem dL_law_462 : decode cL_law 462 = .ok (.aload_n 2, 1) := by decide +kernel
theorem dL_law_463 : decode cL_law 463 = .ok (.invokevirtual 57, 3) := by decide +kernel
theorem dL_law_466 : decode cL_law 466 = .ok (.if_icmp .eq 738, 3) := by decide +kernel
theorem dL_law_469 : decode cL_law 469 = .ok (.iconst 0, 1) := by decide +kernel
theorem dL_law_470 : decode cL_law 470 = .ok (.ireturn, 1) := by decide +kernel
theorem dL_law_471 : decode cL_law 471 = .ok (.aload_n 1, 1) := by decide +kernel
theorem dL_law_472 : decode cL_law 472 = .ok (.invokevirtual 58, 3) := by decide +kernel
theorem dL_law_475 : decode cL_law 475 = .ok (.aload_n 2, 1) := by decide +kernel
theorem dL_law_476 : decode cL_law 476 = .ok (.invokevirtual 61, 3) := by decide +kernel
theorem dL_law_479 : decode cL_law 479 = .ok (.if_icmp .eq 725, 3) := by decide +kernel
theorem dL_law_482 : decode cL_law 482 = .ok (.iconst 0, 1) := by decide +kernel
theorem dL_law_483 : decode cL_law 483 = .ok (.ireturn, 1) := by decide +kernel
theorem dL_law_484 : decode cL_law 484 = .ok (.aload_n 1, 1) := by decide +kernel
theorem dL_law_485 : decode cL_law 485 = .ok (.aload_n 0, 1) := by decide +kernel
theorem dL_law_486 : decode cL_law 486 = .ok (.iload_n 3, 1) := by decide +kernel
theorem dL_law_487 : decode cL_law 487 = .ok (.iconst 1, 1) := by decide +kernel
theorem dL_law_488 : decode cL_law 488 = .ok (.iadd, 1) := by decide +kernel
theorem dL_law_489 : decode cL_law 489 = .ok (.iaload, 1) := by decide +kernel
theorem dL_law_490 : decode cL_law 490 = .ok (.invokevirtual 62, 3) := by decide +kernel
theorem dL_law_493 : decode cL_law 493 = .ok (.aload_n 2, 1) := by decide +kernel
theorem dL_law_494 : decode cL_law 494 = .ok (.aload_n 0, 1) := by decide +kernel
theorem dL_law_495 : decode cL_law 495 = .ok (.iload_n 3, 1) := by decide +kernel
theorem dL_law_496 : decode cL_law 496 = .ok (.iconst 1, 1) := by decide +kernel
theorem dL_law_497 : decode cL_law 497 = .ok (.iadd, 1) := by decide +kernel
theorem dL_law_498 : decode cL_law 498 = .ok (.iaload, 1) := by decide +kernel
theorem dL_law_499 : decode cL_law 499 = .ok (.invokevirtual 65, 3) := by decide +kernel
theorem dL_law_502 : decode cL_law 502 = .ok (.if_icmp .eq 702, 3) := by decide +kernel
theorem dL_law_505 : decode cL_law 505 = .ok (.iconst 0, 1) := by decide +kernel
theorem dL_law_506 : decode cL_law 506 = .ok (.ireturn, 1) := by decide +kernel
theorem dL_law_507 : decode cL_law 507 = .ok (.aload_n 1, 1) := by decide +kernel
theorem dL_law_508 : decode cL_law 508 = .ok (.aload_n 0, 1) := by decide +kernel
theorem dL_law_509 : decode cL_law 509 = .ok (.iload_n 3, 1) := by decide +kernel
theorem dL_law_510 : decode cL_law 510 = .ok (.iconst 1, 1) := by decide +kernel
theorem dL_law_511 : decode cL_law 511 = .ok (.iadd, 1) := by decide +kernel
theorem dL_law_512 : decode cL_law 512 = .ok (.iaload, 1) := by decide +kernel
theorem dL_law_513 : decode cL_law 513 = .ok (.aload_n 0, 1) := by decide +kernel
theorem dL_law_514 : decode cL_law 514 = .ok (.iload_n 3, 1) := by decide +kernel
theorem dL_law_515 : decode cL_law 515 = .ok (.iconst 2, 1) := by decide +kernel
theorem dL_law_516 : decode cL_law 516 = .ok (.iadd, 1) := by decide +kernel
theorem dL_law_517 : decode cL_law 517 = .ok (.iaload, 1) := by decide +kernel
theorem dL_law_518 : decode cL_law 518 = .ok (.invokevirtual 66, 3) := by decide +kernel
theorem dL_law_521 : decode cL_law 521 = .ok (.aload_n 2, 1) := by decide +kernel
theorem dL_law_522 : decode cL_law 522 = .ok (.aload_n 0, 1) := by decide +kernel
theorem dL_law_523 : decode cL_law 523 = .ok (.iload_n 3, 1) := by decide +kernel
theorem dL_law_524 : decode cL_law 524 = .ok (.iconst 1, 1) := by decide +kernel
theorem dL_law_525 : decode cL_law 525 = .ok (.iadd, 1) := by decide +kernel
theorem dL_law_526 : decode cL_law 526 = .ok (.iaload, 1) := by decide +kernel
theorem dL_law_527 : decode cL_law 527 = .ok (.aload_n 0, 1) := by decide +kernel
theorem dL_law_528 : decode cL_law 528 = .ok (.iload_n 3, 1) := by decide +kernel
theorem dL_law_529 : decode cL_law 529 = .ok (.iconst 2, 1) := by decide +kernel
theorem dL_law_530 : decode cL_law 530 = .ok (.iadd, 1) := by decide +kernel
theorem dL_law_531 : decode cL_law 531 = .ok (.iaload, 1) := by decide +kernel
theorem dL_law_532 : decode cL_law 532 = .ok (.invokevirtual 69, 3) := by decide +kernel
theorem dL_law_535 : decode cL_law 535 = .ok (.if_icmp .eq 669, 3) := by decide +kernel
theorem dL_law_538 : decode cL_law 538 = .ok (.iconst 0, 1) := by decide +kernel
theorem dL_law_539 : decode cL_law 539 = .ok (.ireturn, 1) := by decide +kernel
theorem dL_law_540 : decode cL_law 540 = .ok (.aload_n 1, 1) := by decide +kernel
theorem dL_law_541 : decode cL_law 541 = .ok (.aload_n 0, 1) := by decide +kernel
theorem dL_law_542 : decode cL_law 542 = .ok (.iload_n 3, 1) := by decide +kernel
theorem dL_law_543 : decode cL_law 543 = .ok (.iconst 1, 1) := by decide +kernel
theorem dL_law_544 : decode cL_law 544 = .ok (.iadd, 1) := by decide +kernel
theorem dL_law_545 : decode cL_law 545 = .ok (.iaload, 1) := by decide +kernel
theorem dL_law_546 : decode cL_law 546 = .ok (.invokevirtual 70, 3) := by decide +kernel
theorem dL_law_549 : decode cL_law 549 = .ok (.aload_n 2, 1) := by decide +kernel
theorem dL_law_550 : decode cL_law 550 = .ok (.aload_n 0, 1) := by decide +kernel
theorem dL_law_551 : decode cL_law 551 = .ok (.iload_n 3, 1) := by decide +kernel
theorem dL_law_552 : decode cL_law 552 = .ok (.iconst 1, 1) := by decide +kernel
theorem dL_law_553 : decode cL_law 553 = .ok (.iadd, 1) := by decide +kernel
theorem dL_law_554 : decode cL_law 554 = .ok (.iaload, 1) := by decide +kernel
theorem dL_law_555 : decode cL_law 555 = .ok (.invokevirtual 73, 3) := by decide +kernel
theorem dL_law_558 : decode cL_law 558 = .ok (.if_icmp .eq 646, 3) := by decide +kernel
theorem dL_law_561 : decode cL_law 561 = .ok (.iconst 0, 1) := by decide +kernel
theorem dL_law_562 : decode cL_law 562 = .ok (.ireturn, 1) := by decide +kernel
theorem dL_law_563 : decode cL_law 563 = .ok (.aload_n 1, 1) := by decide +kernel
theorem dL_law_564 : decode cL_law 564 = .ok (.aload_n 0, 1) := by decide +kernel
theorem dL_law_565 : decode cL_law 565 = .ok (.iload_n 3, 1) := by decide +kernel
theorem dL_law_566 : decode cL_law 566 = .ok (.iconst 1, 1) := by decide +kernel
theorem dL_law_567 : decode cL_law 567 = .ok (.iadd, 1) := by decide +kernel
theorem dL_law_568 : decode cL_law 568 = .ok (.iaload, 1) := by decide +kernel
theorem dL_law_569 : decode cL_law 569 = .ok (.aload_n 0, 1) := by decide +kernel
theorem dL_law_570 : decode cL_law 570 = .ok (.iload_n 3, 1) := by decide +kernel
theorem dL_law_571 : decode cL_law 571 = .ok (.iconst 2, 1) := by decide +kernel
theorem dL_law_572 : decode cL_law 572 = .ok (.iadd, 1) := by decide +kernel
theorem dL_law_573 : decode cL_law 573 = .ok (.iaload, 1) := by decide +kernel
theorem dL_law_574 : decode cL_law 574 = .ok (.aload_n 0, 1) := by decide +kernel
theorem dL_law_575 : decode cL_law 575 = .ok (.iload_n 3, 1) := by decide +kernel
theorem dL_law_576 : decode cL_law 576 = .ok (.iconst 3, 1) := by decide +kernel
theorem dL_law_577 : decode cL_law 577 = .ok (.iadd, 1) := by decide +kernel
theorem dL_law_578 : decode cL_law 578 = .ok (.iaload, 1) := by decide +kernel
theorem dL_law_579 : decode cL_law 579 = .ok (.aload_n 0, 1) := by decide +kernel
theorem dL_law_580 : decode cL_law 580 = .ok (.iload_n 3, 1) := by decide +kernel
theorem dL_law_581 : decode cL_law 581 = .ok (.iconst 4, 1) := by decide +kernel
theorem dL_law_582 : decode cL_law 582 = .ok (.iadd, 1) := by decide +kernel
theorem dL_law_583 : decode cL_law 583 = .ok (.iaload, 1) := by decide +kernel
theorem dL_law_584 : decode cL_law 584 = .ok (.aload_n 0, 1) := by decide +kernel
theorem dL_law_585 : decode cL_law 585 = .ok (.iload_n 3, 1) := by decide +kernel
theorem dL_law_586 : decode cL_law 586 = .ok (.iconst 5, 1) := by decide +kernel
theorem dL_law_587 : decode cL_law 587 = .ok (.iadd, 1) := by decide +kernel
theorem dL_law_588 : decode cL_law 588 = .ok (.iaload, 1) := by decide +kernel
theorem dL_law_589 : decode cL_law 589 = .ok (.invokevirtual 74, 3) := by decide +kernel
theorem dL_law_592 : decode cL_law 592 = .ok (.aload_n 2, 1) := by decide +kernel
theorem dL_law_593 : decode cL_law 593 = .ok (.aload_n 0, 1) := by decide +kernel
theorem dL_law_594 : decode cL_law 594 = .ok (.iload_n 3, 1) := by decide +kernel
theorem dL_law_595 : decode cL_law 595 = .ok (.iconst 1, 1) := by decide +kernel
theorem dL_law_596 : decode cL_law 596 = .ok (.iadd, 1) := by decide +kernel
theorem dL_law_597 : decode cL_law 597 = .ok (.iaload, 1) := by decide +kernel
theorem dL_law_598 : decode cL_law 598 = .ok (.aload_n 0, 1) := by decide +kernel
theorem dL_law_599 : decode cL_law 599 = .ok (.iload_n 3, 1) := by decide +kernel
theorem dL_law_600 : decode cL_law 600 = .ok (.iconst 2, 1) := by decide +kernel
theorem dL_law_601 : decode cL_law 601 = .ok (.iadd, 1) := by decide +kernel
theorem dL_law_602 : decode cL_law 602 = .ok (.iaload, 1) := by decide +kernel
theorem dL_law_603 : decode cL_law 603 = .ok (.aload_n 0, 1) := by decide +kernel
theorem dL_law_604 : decode cL_law 604 = .ok (.iload_n 3, 1) := by decide +kernel
theorem dL_law_605 : decode cL_law 605 = .ok (.iconst 3, 1) := by decide +kernel
theorem dL_law_606 : decode cL_law 606 = .ok (.iadd, 1) := by decide +kernel
theorem dL_law_607 : decode cL_law 607 = .ok (.iaload, 1) := by decide +kernel
theorem dL_law_608 : decode cL_law 608 = .ok (.aload_n 0, 1) := by decide +kernel
theorem dL_law_609 : decode cL_law 609 = .ok (.iload_n 3, 1) := by decide +kernel
theorem dL_law_610 : decode cL_law 610 = .ok (.iconst 4, 1) := by decide +kernel
theorem dL_law_611 : decode cL_law 611 = .ok (.iadd, 1) := by decide +kernel
theorem dL_law_612 : decode cL_law 612 = .ok (.iaload, 1) := by decide +kernel
theorem dL_law_613 : decode cL_law 613 = .ok (.aload_n 0, 1) := by decide +kernel
theorem dL_law_614 : decode cL_law 614 = .ok (.iload_n 3, 1) := by decide +kernel
theorem dL_law_615 : decode cL_law 615 = .ok (.iconst 5, 1) := by decide +kernel
theorem dL_law_616 : decode cL_law 616 = .ok (.iadd, 1) := by decide +kernel
theorem dL_law_617 : decode cL_law 617 = .ok (.iaload, 1) := by decide +kernel
theorem dL_law_618 : decode cL_law 618 = .ok (.invokevirtual 78, 3) := by decide +kernel
theorem dL_law_621 : decode cL_law 621 = .ok (.if_icmp .eq 583, 3) := by decide +kernel
theorem dL_law_624 : decode cL_law 624 = .ok (.iconst 0, 1) := by decide +kernel
theorem dL_law_625 : decode cL_law 625 = .ok (.ireturn, 1) := by decide +kernel
theorem dL_law_626 : decode cL_law 626 = .ok (.aload_n 1, 1) := by decide +kernel
theorem dL_law_627 : decode cL_law 627 = .ok (.aload_n 0, 1) := by decide +kernel
theorem dL_law_628 : decode cL_law 628 = .ok (.iload_n 3, 1) := by decide +kernel
theorem dL_law_629 : decode cL_law 629 = .ok (.iconst 1, 1) := by decide +kernel
theorem dL_law_630 : decode cL_law 630 = .ok (.iadd, 1) := by decide +kernel
theorem dL_law_631 : decode cL_law 631 = .ok (.iaload, 1) := by decide +kernel
theorem dL_law_632 : decode cL_law 632 = .ok (.aload_n 0, 1) := by decide +kernel
theorem dL_law_633 : decode cL_law 633 = .ok (.iload_n 3, 1) := by decide +kernel
theorem dL_law_634 : decode cL_law 634 = .ok (.iconst 2, 1) := by decide +kernel
theorem dL_law_635 : decode cL_law 635 = .ok (.iadd, 1) := by decide +kernel
theorem dL_law_636 : decode cL_law 636 = .ok (.iaload, 1) := by decide +kernel
theorem dL_law_637 : decode cL_law 637 = .ok (.invokevirtual 79, 3) := by decide +kernel
theorem dL_law_640 : decode cL_law 640 = .ok (.aload_n 2, 1) := by decide +kernel
theorem dL_law_641 : decode cL_law 641 = .ok (.aload_n 0, 1) := by decide +kernel
theorem dL_law_642 : decode cL_law 642 = .ok (.iload_n 3, 1) := by decide +kernel
theorem dL_law_643 : decode cL_law 643 = .ok (.iconst 1, 1) := by decide +kernel
theorem dL_law_644 : decode cL_law 644 = .ok (.iadd, 1) := by decide +kernel
theorem dL_law_645 : decode cL_law 645 = .ok (.iaload, 1) := by decide +kernel
theorem dL_law_646 : decode cL_law 646 = .ok (.aload_n 0, 1) := by decide +kernel
theorem dL_law_647 : decode cL_law 647 = .ok (.iload_n 3, 1) := by decide +kernel
theorem dL_law_648 : decode cL_law 648 = .ok (.iconst 2, 1) := by decide +kernel
theorem dL_law_649 : decode cL_law 649 = .ok (.iadd, 1) := by decide +kernel
theorem dL_law_650 : decode cL_law 650 = .ok (.iaload, 1) := by decide +kernel
theorem dL_law_651 : decode cL_law 651 = .ok (.invokevirtual 82, 3) := by decide +kernel
theorem dL_law_654 : decode cL_law 654 = .ok (.if_icmp .eq 550, 3) := by decide +kernel
theorem dL_law_657 : decode cL_law 657 = .ok (.iconst 0, 1) := by decide +kernel
theorem dL_law_658 : decode cL_law 658 = .ok (.ireturn, 1) := by decide +kernel
theorem dL_law_659 : decode cL_law 659 = .ok (.aload_n 1, 1) := by decide +kernel
theorem dL_law_660 : decode cL_law 660 = .ok (.aload_n 0, 1) := by decide +kernel
theorem dL_law_661 : decode cL_law 661 = .ok (.iload_n 3, 1) := by decide +kernel
theorem dL_law_662 : decode cL_law 662 = .ok (.iconst 1, 1) := by decide +kernel
theorem dL_law_663 : decode cL_law 663 = .ok (.iadd, 1) := by decide +kernel
theorem dL_law_664 : decode cL_law 664 = .ok (.iaload, 1) := by decide +kernel
theorem dL_law_665 : decode cL_law 665 = .ok (.aload_n 0, 1) := by decide +kernel
theorem dL_law_666 : decode cL_law 666 = .ok (.iload_n 3, 1) := by decide +kernel
theorem dL_law_667 : decode cL_law 667 = .ok (.iconst 2, 1) := by decide +kernel
theorem dL_law_668 : decode cL_law 668 = .ok (.iadd, 1) := by decide +kernel
theorem dL_law_669 : decode cL_law 669 = .ok (.iaload, 1) := by decide +kernel
theorem dL_law_670 : decode cL_law 670 = .ok (.aload_n 0, 1) := by decide +kernel
theorem dL_law_671 : decode cL_law 671 = .ok (.iload_n 3, 1) := by decide +kernel
theorem dL_law_672 : decode cL_law 672 = .ok (.iconst 3, 1) := by decide +kernel
theorem dL_law_673 : decode cL_law 673 = .ok (.iadd, 1) := by decide +kernel
theorem dL_law_674 : decode cL_law 674 = .ok (.iaload, 1) := by decide +kernel
theorem dL_law_675 : decode cL_law 675 = .ok (.invokevirtual 83, 3) := by decide +kernel
theorem dL_law_678 : decode cL_law 678 = .ok (.aload_n 2, 1) := by decide +kernel
theorem dL_law_679 : decode cL_law 679 = .ok (.aload_n 0, 1) := by decide +kernel
theorem dL_law_680 : decode cL_law 680 = .ok (.iload_n 3, 1) := by decide +kernel
theorem dL_law_681 : decode cL_law 681 = .ok (.iconst 1, 1) := by decide +kernel
theorem dL_law_682 : decode cL_law 682 = .ok (.iadd, 1) := by decide +kernel
theorem dL_law_683 : decode cL_law 683 = .ok (.iaload, 1) := by decide +kernel
theorem dL_law_684 : decode cL_law 684 = .ok (.aload_n 0, 1) := by decide +kernel
theorem dL_law_685 : decode cL_law 685 = .ok (.iload_n 3, 1) := by decide +kernel
theorem dL_law_686 : decode cL_law 686 = .ok (.iconst 2, 1) := by decide +kernel
theorem dL_law_687 : decode cL_law 687 = .ok (.iadd, 1) := by decide +kernel
theorem dL_law_688 : decode cL_law 688 = .ok (.iaload, 1) := by decide +kernel
theorem dL_law_689 : decode cL_law 689 = .ok (.aload_n 0, 1) := by decide +kernel
theorem dL_law_690 : decode cL_law 690 = .ok (.iload_n 3, 1) := by decide +kernel
theorem dL_law_691 : decode cL_law 691 = .ok (.iconst 3, 1) := by decide +kernel
theorem dL_law_692 : decode cL_law 692 = .ok (.iadd, 1) := by decide +kernel
theorem dL_law_693 : decode cL_law 693 = .ok (.iaload, 1) := by decide +kernel
theorem dL_law_694 : decode cL_law 694 = .ok (.invokevirtual 87, 3) := by decide +kernel
theorem dL_law_697 : decode cL_law 697 = .ok (.if_icmp .eq 507, 3) := by decide +kernel
theorem dL_law_700 : decode cL_law 700 = .ok (.iconst 0, 1) := by decide +kernel
theorem dL_law_701 : decode cL_law 701 = .ok (.ireturn, 1) := by decide +kernel
theorem dL_law_702 : decode cL_law 702 = .ok (.aload_n 1, 1) := by decide +kernel
theorem dL_law_703 : decode cL_law 703 = .ok (.aload_n 0, 1) := by decide +kernel
theorem dL_law_704 : decode cL_law 704 = .ok (.iload_n 3, 1) := by decide +kernel
theorem dL_law_705 : decode cL_law 705 = .ok (.iconst 1, 1) := by decide +kernel
theorem dL_law_706 : decode cL_law 706 = .ok (.iadd, 1) := by decide +kernel
theorem dL_law_707 : decode cL_law 707 = .ok (.iaload, 1) := by decide +kernel
theorem dL_law_708 : decode cL_law 708 = .ok (.aload_n 0, 1) := by decide +kernel
theorem dL_law_709 : decode cL_law 709 = .ok (.iload_n 3, 1) := by decide +kernel
theorem dL_law_710 : decode cL_law 710 = .ok (.iconst 2, 1) := by decide +kernel
theorem dL_law_711 : decode cL_law 711 = .ok (.iadd, 1) := by decide +kernel
theorem dL_law_712 : decode cL_law 712 = .ok (.iaload, 1) := by decide +kernel
theorem dL_law_713 : decode cL_law 713 = .ok (.aload_n 0, 1) := by decide +kernel
theorem dL_law_714 : decode cL_law 714 = .ok (.iload_n 3, 1) := by decide +kernel
theorem dL_law_715 : decode cL_law 715 = .ok (.iconst 3, 1) := by decide +kernel
theorem dL_law_716 : decode cL_law 716 = .ok (.iadd, 1) := by decide +kernel
theorem dL_law_717 : decode cL_law 717 = .ok (.iaload, 1) := by decide +kernel
theorem dL_law_718 : decode cL_law 718 = .ok (.aload_n 0, 1) := by decide +kernel
theorem dL_law_719 : decode cL_law 719 = .ok (.iload_n 3, 1) := by decide +kernel
theorem dL_law_720 : decode cL_law 720 = .ok (.iconst 4, 1) := by decide +kernel
theorem dL_law_721 : decode cL_law 721 = .ok (.iadd, 1) := by decide +kernel
theorem dL_law_722 : decode cL_law 722 = .ok (.iaload, 1) := by decide +kernel
theorem dL_law_723 : decode cL_law 723 = .ok (.invokevirtual 88, 3) := by decide +kernel
theorem dL_law_726 : decode cL_law 726 = .ok (.aload_n 2, 1) := by decide +kernel
theorem dL_law_727 : decode cL_law 727 = .ok (.aload_n 0, 1) := by decide +kernel
theorem dL_law_728 : decode cL_law 728 = .ok (.iload_n 3, 1) := by decide +kernel
theorem dL_law_729 : decode cL_law 729 = .ok (.iconst 1, 1) := by decide +kernel
theorem dL_law_730 : decode cL_law 730 = .ok (.iadd, 1) := by decide +kernel
theorem dL_law_731 : decode cL_law 731 = .ok (.iaload, 1) := by decide +kernel
theorem dL_law_732 : decode cL_law 732 = .ok (.aload_n 0, 1) := by decide +kernel
theorem dL_law_733 : decode cL_law 733 = .ok (.iload_n 3, 1) := by decide +kernel
theorem dL_law_734 : decode cL_law 734 = .ok (.iconst 2, 1) := by decide +kernel
theorem dL_law_735 : decode cL_law 735 = .ok (.iadd, 1) := by decide +kernel
theorem dL_law_736 : decode cL_law 736 = .ok (.iaload, 1) := by decide +kernel
theorem dL_law_737 : decode cL_law 737 = .ok (.aload_n 0, 1) := by decide +kernel
theorem dL_law_738 : decode cL_law 738 = .ok (.iload_n 3, 1) := by decide +kernel
theorem dL_law_739 : decode cL_law 739 = .ok (.iconst 3, 1) := by decide +kernel
theorem dL_law_740 : decode cL_law 740 = .ok (.iadd, 1) := by decide +kernel
theorem dL_law_741 : decode cL_law 741 = .ok (.iaload, 1) := by decide +kernel
theorem dL_law_742 : decode cL_law 742 = .ok (.aload_n 0, 1) := by decide +kernel
theorem dL_law_743 : decode cL_law 743 = .ok (.iload_n 3, 1) := by decide +kernel
theorem dL_law_744 : decode cL_law 744 = .ok (.iconst 4, 1) := by decide +kernel
theorem dL_law_745 : decode cL_law 745 = .ok (.iadd, 1) := by decide +kernel
theorem dL_law_746 : decode cL_law 746 = .ok (.iaload, 1) := by decide +kernel
theorem dL_law_747 : decode cL_law 747 = .ok (.invokevirtual 91, 3) := by decide +kernel
theorem dL_law_750 : decode cL_law 750 = .ok (.if_icmp .eq 454, 3) := by decide +kernel
theorem dL_law_753 : decode cL_law 753 = .ok (.iconst 0, 1) := by decide +kernel
theorem dL_law_754 : decode cL_law 754 = .ok (.ireturn, 1) := by decide +kernel
theorem dL_law_755 : decode cL_law 755 = .ok (.aload_n 1, 1) := by decide +kernel
theorem dL_law_756 : decode cL_law 756 = .ok (.aload_n 0, 1) := by decide +kernel
theorem dL_law_757 : decode cL_law 757 = .ok (.iload_n 3, 1) := by decide +kernel
theorem dL_law_758 : decode cL_law 758 = .ok (.iconst 1, 1) := by decide +kernel
theorem dL_law_759 : decode cL_law 759 = .ok (.iadd, 1) := by decide +kernel
theorem dL_law_760 : decode cL_law 760 = .ok (.iaload, 1) := by decide +kernel
theorem dL_law_761 : decode cL_law 761 = .ok (.invokevirtual 92, 3) := by decide +kernel
theorem dL_law_764 : decode cL_law 764 = .ok (.aload_n 2, 1) := by decide +kernel
theorem dL_law_765 : decode cL_law 765 = .ok (.aload_n 0, 1) := by decide +kernel
theorem dL_law_766 : decode cL_law 766 = .ok (.iload_n 3, 1) := by decide +kernel
theorem dL_law_767 : decode cL_law 767 = .ok (.iconst 1, 1) := by decide +kernel
theorem dL_law_768 : decode cL_law 768 = .ok (.iadd, 1) := by decide +kernel
theorem dL_law_769 : decode cL_law 769 = .ok (.iaload, 1) := by decide +kernel
theorem dL_law_770 : decode cL_law 770 = .ok (.invokevirtual 95, 3) := by decide +kernel
theorem dL_law_773 : decode cL_law 773 = .ok (.if_icmp .eq 431, 3) := by decide +kernel
theorem dL_law_776 : decode cL_law 776 = .ok (.iconst 0, 1) := by decide +kernel
theorem dL_law_777 : decode cL_law 777 = .ok (.ireturn, 1) := by decide +kernel
theorem dL_law_778 : decode cL_law 778 = .ok (.aload_n 1, 1) := by decide +kernel
theorem dL_law_779 : decode cL_law 779 = .ok (.aload_n 0, 1) := by decide +kernel
theorem dL_law_780 : decode cL_law 780 = .ok (.iload_n 3, 1) := by decide +kernel
theorem dL_law_781 : decode cL_law 781 = .ok (.iconst 1, 1) := by decide +kernel
theorem dL_law_782 : decode cL_law 782 = .ok (.iadd, 1) := by decide +kernel
theorem dL_law_783 : decode cL_law 783 = .ok (.iaload, 1) := by decide +kernel
theorem dL_law_784 : decode cL_law 784 = .ok (.aload_n 0, 1) := by decide +kernel
theorem dL_law_785 : decode cL_law 785 = .ok (.iload_n 3, 1) := by decide +kernel
theorem dL_law_786 : decode cL_law 786 = .ok (.iconst 2, 1) := by decide +kernel
theorem dL_law_787 : decode cL_law 787 = .ok (.iadd, 1) := by decide +kernel
theorem dL_law_788 : decode cL_law 788 = .ok (.iaload, 1) := by decide +kernel
theorem dL_law_789 : decode cL_law 789 = .ok (.invokevirtual 96, 3) := by decide +kernel
theorem dL_law_792 : decode cL_law 792 = .ok (.aload_n 2, 1) := by decide +kernel
theorem dL_law_793 : decode cL_law 793 = .ok (.aload_n 0, 1) := by decide +kernel
theorem dL_law_794 : decode cL_law 794 = .ok (.iload_n 3, 1) := by decide +kernel
theorem dL_law_795 : decode cL_law 795 = .ok (.iconst 1, 1) := by decide +kernel
theorem dL_law_796 : decode cL_law 796 = .ok (.iadd, 1) := by decide +kernel
theorem dL_law_797 : decode cL_law 797 = .ok (.iaload, 1) := by decide +kernel
theorem dL_law_798 : decode cL_law 798 = .ok (.aload_n 0, 1) := by decide +kernel
theorem dL_law_799 : decode cL_law 799 = .ok (.iload_n 3, 1) := by decide +kernel
theorem dL_law_800 : decode cL_law 800 = .ok (.iconst 2, 1) := by decide +kernel
theorem dL_law_801 : decode cL_law 801 = .ok (.iadd, 1) := by decide +kernel
theorem dL_law_802 : decode cL_law 802 = .ok (.iaload, 1) := by decide +kernel
theorem dL_law_803 : decode cL_law 803 = .ok (.invokevirtual 99, 3) := by decide +kernel
theorem dL_law_806 : decode cL_law 806 = .ok (.lcmp, 1) := by decide +kernel
theorem dL_law_807 : decode cL_law 807 = .ok (.ifCond .eq 397, 3) := by decide +kernel
theorem dL_law_810 : decode cL_law 810 = .ok (.iconst 0, 1) := by decide +kernel
theorem dL_law_811 : decode cL_law 811 = .ok (.ireturn, 1) := by decide +kernel
theorem dL_law_812 : decode cL_law 812 = .ok (.aload_n 1, 1) := by decide +kernel
theorem dL_law_813 : decode cL_law 813 = .ok (.aload_n 0, 1) := by decide +kernel
theorem dL_law_814 : decode cL_law 814 = .ok (.iload_n 3, 1) := by decide +kernel
theorem dL_law_815 : decode cL_law 815 = .ok (.iconst 1, 1) := by decide +kernel
theorem dL_law_816 : decode cL_law 816 = .ok (.iadd, 1) := by decide +kernel
theorem dL_law_817 : decode cL_law 817 = .ok (.iaload, 1) := by decide +kernel
theorem dL_law_818 : decode cL_law 818 = .ok (.aload_n 0, 1) := by decide +kernel
theorem dL_law_819 : decode cL_law 819 = .ok (.iload_n 3, 1) := by decide +kernel
theorem dL_law_820 : decode cL_law 820 = .ok (.iconst 2, 1) := by decide +kernel
theorem dL_law_821 : decode cL_law 821 = .ok (.iadd, 1) := by decide +kernel
theorem dL_law_822 : decode cL_law 822 = .ok (.iaload, 1) := by decide +kernel
theorem dL_law_823 : decode cL_law 823 = .ok (.invokevirtual 100, 3) := by decide +kernel
theorem dL_law_826 : decode cL_law 826 = .ok (.aload_n 2, 1) := by decide +kernel
theorem dL_law_827 : decode cL_law 827 = .ok (.aload_n 0, 1) := by decide +kernel
theorem dL_law_828 : decode cL_law 828 = .ok (.iload_n 3, 1) := by decide +kernel
theorem dL_law_829 : decode cL_law 829 = .ok (.iconst 1, 1) := by decide +kernel
theorem dL_law_830 : decode cL_law 830 = .ok (.iadd, 1) := by decide +kernel
theorem dL_law_831 : decode cL_law 831 = .ok (.iaload, 1) := by decide +kernel
theorem dL_law_832 : decode cL_law 832 = .ok (.aload_n 0, 1) := by decide +kernel
theorem dL_law_833 : decode cL_law 833 = .ok (.iload_n 3, 1) := by decide +kernel
theorem dL_law_834 : decode cL_law 834 = .ok (.iconst 2, 1) := by decide +kernel
theorem dL_law_835 : decode cL_law 835 = .ok (.iadd, 1) := by decide +kernel
theorem dL_law_836 : decode cL_law 836 = .ok (.iaload, 1) := by decide +kernel
theorem dL_law_837 : decode cL_law 837 = .ok (.invokevirtual 103, 3) := by decide +kernel
theorem dL_law_840 : decode cL_law 840 = .ok (.if_icmp .eq 364, 3) := by decide +kernel
theorem dL_law_843 : decode cL_law 843 = .ok (.iconst 0, 1) := by decide +kernel
theorem dL_law_844 : decode cL_law 844 = .ok (.ireturn, 1) := by decide +kernel
theorem dL_law_845 : decode cL_law 845 = .ok (.aload_n 1, 1) := by decide +kernel
theorem dL_law_846 : decode cL_law 846 = .ok (.aload_n 0, 1) := by decide +kernel
theorem dL_law_847 : decode cL_law 847 = .ok (.iload_n 3, 1) := by decide +kernel
theorem dL_law_848 : decode cL_law 848 = .ok (.iconst 1, 1) := by decide +kernel
theorem dL_law_849 : decode cL_law 849 = .ok (.iadd, 1) := by decide +kernel
theorem dL_law_850 : decode cL_law 850 = .ok (.iaload, 1) := by decide +kernel
theorem dL_law_851 : decode cL_law 851 = .ok (.aload_n 0, 1) := by decide +kernel
theorem dL_law_852 : decode cL_law 852 = .ok (.iload_n 3, 1) := by decide +kernel
theorem dL_law_853 : decode cL_law 853 = .ok (.iconst 2, 1) := by decide +kernel
theorem dL_law_854 : decode cL_law 854 = .ok (.iadd, 1) := by decide +kernel
theorem dL_law_855 : decode cL_law 855 = .ok (.iaload, 1) := by decide +kernel
theorem dL_law_856 : decode cL_law 856 = .ok (.aload_n 0, 1) := by decide +kernel
theorem dL_law_857 : decode cL_law 857 = .ok (.iload_n 3, 1) := by decide +kernel
theorem dL_law_858 : decode cL_law 858 = .ok (.iconst 3, 1) := by decide +kernel
theorem dL_law_859 : decode cL_law 859 = .ok (.iadd, 1) := by decide +kernel
theorem dL_law_860 : decode cL_law 860 = .ok (.iaload, 1) := by decide +kernel
theorem dL_law_861 : decode cL_law 861 = .ok (.invokevirtual 104, 3) := by decide +kernel
theorem dL_law_864 : decode cL_law 864 = .ok (.aload_n 2, 1) := by decide +kernel
theorem dL_law_865 : decode cL_law 865 = .ok (.aload_n 0, 1) := by decide +kernel
theorem dL_law_866 : decode cL_law 866 = .ok (.iload_n 3, 1) := by decide +kernel
theorem dL_law_867 : decode cL_law 867 = .ok (.iconst 1, 1) := by decide +kernel
theorem dL_law_868 : decode cL_law 868 = .ok (.iadd, 1) := by decide +kernel
theorem dL_law_869 : decode cL_law 869 = .ok (.iaload, 1) := by decide +kernel
theorem dL_law_870 : decode cL_law 870 = .ok (.aload_n 0, 1) := by decide +kernel
theorem dL_law_871 : decode cL_law 871 = .ok (.iload_n 3, 1) := by decide +kernel
theorem dL_law_872 : decode cL_law 872 = .ok (.iconst 2, 1) := by decide +kernel
theorem dL_law_873 : decode cL_law 873 = .ok (.iadd, 1) := by decide +kernel
theorem dL_law_874 : decode cL_law 874 = .ok (.iaload, 1) := by decide +kernel
theorem dL_law_875 : decode cL_law 875 = .ok (.aload_n 0, 1) := by decide +kernel
theorem dL_law_876 : decode cL_law 876 = .ok (.iload_n 3, 1) := by decide +kernel
theorem dL_law_877 : decode cL_law 877 = .ok (.iconst 3, 1) := by decide +kernel
theorem dL_law_878 : decode cL_law 878 = .ok (.iadd, 1) := by decide +kernel
theorem dL_law_879 : decode cL_law 879 = .ok (.iaload, 1) := by decide +kernel
theorem dL_law_880 : decode cL_law 880 = .ok (.invokevirtual 108, 3) := by decide +kernel
theorem dL_law_883 : decode cL_law 883 = .ok (.lcmp, 1) := by decide +kernel
theorem dL_law_884 : decode cL_law 884 = .ok (.ifCond .eq 320, 3) := by decide +kernel
theorem dL_law_887 : decode cL_law 887 = .ok (.iconst 0, 1) := by decide +kernel
theorem dL_law_888 : decode cL_law 888 = .ok (.ireturn, 1) := by decide +kernel
theorem dL_law_889 : decode cL_law 889 = .ok (.aload_n 1, 1) := by decide +kernel
theorem dL_law_890 : decode cL_law 890 = .ok (.aload_n 0, 1) := by decide +kernel
theorem dL_law_891 : decode cL_law 891 = .ok (.iload_n 3, 1) := by decide +kernel
theorem dL_law_892 : decode cL_law 892 = .ok (.iconst 1, 1) := by decide +kernel
theorem dL_law_893 : decode cL_law 893 = .ok (.iadd, 1) := by decide +kernel
theorem dL_law_894 : decode cL_law 894 = .ok (.iaload, 1) := by decide +kernel
theorem dL_law_895 : decode cL_law 895 = .ok (.invokevirtual 109, 3) := by decide +kernel
theorem dL_law_898 : decode cL_law 898 = .ok (.aload_n 2, 1) := by decide +kernel
theorem dL_law_899 : decode cL_law 899 = .ok (.aload_n 0, 1) := by decide +kernel
theorem dL_law_900 : decode cL_law 900 = .ok (.iload_n 3, 1) := by decide +kernel
theorem dL_law_901 : decode cL_law 901 = .ok (.iconst 1, 1) := by decide +kernel
theorem dL_law_902 : decode cL_law 902 = .ok (.iadd, 1) := by decide +kernel
theorem dL_law_903 : decode cL_law 903 = .ok (.iaload, 1) := by decide +kernel
theorem dL_law_904 : decode cL_law 904 = .ok (.invokevirtual 112, 3) := by decide +kernel
theorem dL_law_907 : decode cL_law 907 = .ok (.if_icmp .eq 297, 3) := by decide +kernel
theorem dL_law_910 : decode cL_law 910 = .ok (.iconst 0, 1) := by decide +kernel
theorem dL_law_911 : decode cL_law 911 = .ok (.ireturn, 1) := by decide +kernel
theorem dL_law_912 : decode cL_law 912 = .ok (.aload_n 1, 1) := by decide +kernel
theorem dL_law_913 : decode cL_law 913 = .ok (.aload_n 0, 1) := by decide +kernel
theorem dL_law_914 : decode cL_law 914 = .ok (.iload_n 3, 1) := by decide +kernel
theorem dL_law_915 : decode cL_law 915 = .ok (.iconst 1, 1) := by decide +kernel
theorem dL_law_916 : decode cL_law 916 = .ok (.iadd, 1) := by decide +kernel
theorem dL_law_917 : decode cL_law 917 = .ok (.iaload, 1) := by decide +kernel
theorem dL_law_918 : decode cL_law 918 = .ok (.aload_n 0, 1) := by decide +kernel
theorem dL_law_919 : decode cL_law 919 = .ok (.iload_n 3, 1) := by decide +kernel
theorem dL_law_920 : decode cL_law 920 = .ok (.iconst 2, 1) := by decide +kernel
theorem dL_law_921 : decode cL_law 921 = .ok (.iadd, 1) := by decide +kernel
theorem dL_law_922 : decode cL_law 922 = .ok (.iaload, 1) := by decide +kernel
theorem dL_law_923 : decode cL_law 923 = .ok (.invokevirtual 113, 3) := by decide +kernel
theorem dL_law_926 : decode cL_law 926 = .ok (.aload_n 2, 1) := by decide +kernel
theorem dL_law_927 : decode cL_law 927 = .ok (.aload_n 0, 1) := by decide +kernel
theorem dL_law_928 : decode cL_law 928 = .ok (.iload_n 3, 1) := by decide +kernel
theorem dL_law_929 : decode cL_law 929 = .ok (.iconst 1, 1) := by decide +kernel
theorem dL_law_930 : decode cL_law 930 = .ok (.iadd, 1) := by decide +kernel
theorem dL_law_931 : decode cL_law 931 = .ok (.iaload, 1) := by decide +kernel
theorem dL_law_932 : decode cL_law 932 = .ok (.aload_n 0, 1) := by decide +kernel
theorem dL_law_933 : decode cL_law 933 = .ok (.iload_n 3, 1) := by decide +kernel
theorem dL_law_934 : decode cL_law 934 = .ok (.iconst 2, 1) := by decide +kernel
theorem dL_law_935 : decode cL_law 935 = .ok (.iadd, 1) := by decide +kernel
theorem dL_law_936 : decode cL_law 936 = .ok (.iaload, 1) := by decide +kernel
theorem dL_law_937 : decode cL_law 937 = .ok (.invokevirtual 116, 3) := by decide +kernel
theorem dL_law_940 : decode cL_law 940 = .ok (.lcmp, 1) := by decide +kernel
theorem dL_law_941 : decode cL_law 941 = .ok (.ifCond .eq 263, 3) := by decide +kernel
theorem dL_law_944 : decode cL_law 944 = .ok (.iconst 0, 1) := by decide +kernel
theorem dL_law_945 : decode cL_law 945 = .ok (.ireturn, 1) := by decide +kernel
theorem dL_law_946 : decode cL_law 946 = .ok (.aload_n 1, 1) := by decide +kernel
theorem dL_law_947 : decode cL_law 947 = .ok (.aload_n 0, 1) := by decide +kernel
theorem dL_law_948 : decode cL_law 948 = .ok (.iload_n 3, 1) := by decide +kernel
theorem dL_law_949 : decode cL_law 949 = .ok (.iconst 1, 1) := by decide +kernel
theorem dL_law_950 : decode cL_law 950 = .ok (.iadd, 1) := by decide +kernel
theorem dL_law_951 : decode cL_law 951 = .ok (.iaload, 1) := by decide +kernel
theorem dL_law_952 : decode cL_law 952 = .ok (.aload_n 0, 1) := by decide +kernel
theorem dL_law_953 : decode cL_law 953 = .ok (.iload_n 3, 1) := by decide +kernel
theorem dL_law_954 : decode cL_law 954 = .ok (.iconst 2, 1) := by decide +kernel
theorem dL_law_955 : decode cL_law 955 = .ok (.iadd, 1) := by decide +kernel
theorem dL_law_956 : decode cL_law 956 = .ok (.iaload, 1) := by decide +kernel
theorem dL_law_957 : decode cL_law 957 = .ok (.aload_n 0, 1) := by decide +kernel
theorem dL_law_958 : decode cL_law 958 = .ok (.iload_n 3, 1) := by decide +kernel
theorem dL_law_959 : decode cL_law 959 = .ok (.iconst 3, 1) := by decide +kernel
theorem dL_law_960 : decode cL_law 960 = .ok (.iadd, 1) := by decide +kernel
theorem dL_law_961 : decode cL_law 961 = .ok (.iaload, 1) := by decide +kernel
theorem dL_law_962 : decode cL_law 962 = .ok (.invokevirtual 117, 3) := by decide +kernel
theorem dL_law_965 : decode cL_law 965 = .ok (.aload_n 2, 1) := by decide +kernel
theorem dL_law_966 : decode cL_law 966 = .ok (.aload_n 0, 1) := by decide +kernel
theorem dL_law_967 : decode cL_law 967 = .ok (.iload_n 3, 1) := by decide +kernel
theorem dL_law_968 : decode cL_law 968 = .ok (.iconst 1, 1) := by decide +kernel
theorem dL_law_969 : decode cL_law 969 = .ok (.iadd, 1) := by decide +kernel
theorem dL_law_970 : decode cL_law 970 = .ok (.iaload, 1) := by decide +kernel
theorem dL_law_971 : decode cL_law 971 = .ok (.aload_n 0, 1) := by decide +kernel
theorem dL_law_972 : decode cL_law 972 = .ok (.iload_n 3, 1) := by decide +kernel
theorem dL_law_973 : decode cL_law 973 = .ok (.iconst 2, 1) := by decide +kernel
theorem dL_law_974 : decode cL_law 974 = .ok (.iadd, 1) := by decide +kernel
theorem dL_law_975 : decode cL_law 975 = .ok (.iaload, 1) := by decide +kernel
theorem dL_law_976 : decode cL_law 976 = .ok (.aload_n 0, 1) := by decide +kernel
theorem dL_law_977 : decode cL_law 977 = .ok (.iload_n 3, 1) := by decide +kernel
theorem dL_law_978 : decode cL_law 978 = .ok (.iconst 3, 1) := by decide +kernel
theorem dL_law_979 : decode cL_law 979 = .ok (.iadd, 1) := by decide +kernel
theorem dL_law_980 : decode cL_law 980 = .ok (.iaload, 1) := by decide +kernel
theorem dL_law_981 : decode cL_law 981 = .ok (.invokevirtual 120, 3) := by decide +kernel
theorem dL_law_984 : decode cL_law 984 = .ok (.if_icmp .eq 220, 3) := by decide +kernel
theorem dL_law_987 : decode cL_law 987 = .ok (.iconst 0, 1) := by decide +kernel
theorem dL_law_988 : decode cL_law 988 = .ok (.ireturn, 1) := by decide +kernel
theorem dL_law_989 : decode cL_law 989 = .ok (.aload_n 1, 1) := by decide +kernel
theorem dL_law_990 : decode cL_law 990 = .ok (.aload_n 0, 1) := by decide +kernel
theorem dL_law_991 : decode cL_law 991 = .ok (.iload_n 3, 1) := by decide +kernel
theorem dL_law_992 : decode cL_law 992 = .ok (.iconst 1, 1) := by decide +kernel
theorem dL_law_993 : decode cL_law 993 = .ok (.iadd, 1) := by decide +kernel
theorem dL_law_994 : decode cL_law 994 = .ok (.iaload, 1) := by decide +kernel
theorem dL_law_995 : decode cL_law 995 = .ok (.invokevirtual 121, 3) := by decide +kernel
theorem dL_law_998 : decode cL_law 998 = .ok (.aload_n 2, 1) := by decide +kernel
theorem dL_law_999 : decode cL_law 999 = .ok (.aload_n 0, 1) := by decide +kernel
theorem dL_law_1000 : decode cL_law 1000 = .ok (.iload_n 3, 1) := by decide +kernel
theorem dL_law_1001 : decode cL_law 1001 = .ok (.iconst 1, 1) := by decide +kernel
theorem dL_law_1002 : decode cL_law 1002 = .ok (.iadd, 1) := by decide +kernel
theorem dL_law_1003 : decode cL_law 1003 = .ok (.iaload, 1) := by decide +kernel
theorem dL_law_1004 : decode cL_law 1004 = .ok (.invokevirtual 124, 3) := by decide +kernel
theorem dL_law_1007 : decode cL_law 1007 = .ok (.if_icmp .eq 197, 3) := by decide +kernel
theorem dL_law_1010 : decode cL_law 1010 = .ok (.iconst 0, 1) := by decide +kernel
theorem dL_law_1011 : decode cL_law 1011 = .ok (.ireturn, 1) := by decide +kernel
theorem dL_law_1012 : decode cL_law 1012 = .ok (.aload_n 1, 1) := by decide +kernel
theorem dL_law_1013 : decode cL_law 1013 = .ok (.aload_n 0, 1) := by decide +kernel
theorem dL_law_1014 : decode cL_law 1014 = .ok (.iload_n 3, 1) := by decide +kernel
theorem dL_law_1015 : decode cL_law 1015 = .ok (.iconst 1, 1) := by decide +kernel
theorem dL_law_1016 : decode cL_law 1016 = .ok (.iadd, 1) := by decide +kernel
theorem dL_law_1017 : decode cL_law 1017 = .ok (.iaload, 1) := by decide +kernel
theorem dL_law_1018 : decode cL_law 1018 = .ok (.aload_n 0, 1) := by decide +kernel
theorem dL_law_1019 : decode cL_law 1019 = .ok (.iload_n 3, 1) := by decide +kernel
theorem dL_law_1020 : decode cL_law 1020 = .ok (.iconst 2, 1) := by decide +kernel
theorem dL_law_1021 : decode cL_law 1021 = .ok (.iadd, 1) := by decide +kernel
theorem dL_law_1022 : decode cL_law 1022 = .ok (.iaload, 1) := by decide +kernel
theorem dL_law_1023 : decode cL_law 1023 = .ok (.aload_n 0, 1) := by decide +kernel
theorem dL_law_1024 : decode cL_law 1024 = .ok (.iload_n 3, 1) := by decide +kernel
theorem dL_law_1025 : decode cL_law 1025 = .ok (.iconst 3, 1) := by decide +kernel
theorem dL_law_1026 : decode cL_law 1026 = .ok (.iadd, 1) := by decide +kernel
theorem dL_law_1027 : decode cL_law 1027 = .ok (.iaload, 1) := by decide +kernel
theorem dL_law_1028 : decode cL_law 1028 = .ok (.invokevirtual 125, 3) := by decide +kernel
theorem dL_law_1031 : decode cL_law 1031 = .ok (.aload_n 2, 1) := by decide +kernel
theorem dL_law_1032 : decode cL_law 1032 = .ok (.aload_n 0, 1) := by decide +kernel
theorem dL_law_1033 : decode cL_law 1033 = .ok (.iload_n 3, 1) := by decide +kernel
theorem dL_law_1034 : decode cL_law 1034 = .ok (.iconst 1, 1) := by decide +kernel
theorem dL_law_1035 : decode cL_law 1035 = .ok (.iadd, 1) := by decide +kernel
theorem dL_law_1036 : decode cL_law 1036 = .ok (.iaload, 1) := by decide +kernel
theorem dL_law_1037 : decode cL_law 1037 = .ok (.aload_n 0, 1) := by decide +kernel
theorem dL_law_1038 : decode cL_law 1038 = .ok (.iload_n 3, 1) := by decide +kernel
theorem dL_law_1039 : decode cL_law 1039 = .ok (.iconst 2, 1) := by decide +kernel
theorem dL_law_1040 : decode cL_law 1040 = .ok (.iadd, 1) := by decide +kernel
theorem dL_law_1041 : decode cL_law 1041 = .ok (.iaload, 1) := by decide +kernel
theorem dL_law_1042 : decode cL_law 1042 = .ok (.aload_n 0, 1) := by decide +kernel
theorem dL_law_1043 : decode cL_law 1043 = .ok (.iload_n 3, 1) := by decide +kernel
theorem dL_law_1044 : decode cL_law 1044 = .ok (.iconst 3, 1) := by decide +kernel
theorem dL_law_1045 : decode cL_law 1045 = .ok (.iadd, 1) := by decide +kernel
theorem dL_law_1046 : decode cL_law 1046 = .ok (.iaload, 1) := by decide +kernel
theorem dL_law_1047 : decode cL_law 1047 = .ok (.invokevirtual 128, 3) := by decide +kernel
theorem dL_law_1050 : decode cL_law 1050 = .ok (.if_icmp .eq 154, 3) := by decide +kernel
theorem dL_law_1053 : decode cL_law 1053 = .ok (.iconst 0, 1) := by decide +kernel
theorem dL_law_1054 : decode cL_law 1054 = .ok (.ireturn, 1) := by decide +kernel
theorem dL_law_1055 : decode cL_law 1055 = .ok (.aload_n 1, 1) := by decide +kernel
theorem dL_law_1056 : decode cL_law 1056 = .ok (.aload_n 0, 1) := by decide +kernel
theorem dL_law_1057 : decode cL_law 1057 = .ok (.iload_n 3, 1) := by decide +kernel
theorem dL_law_1058 : decode cL_law 1058 = .ok (.iconst 1, 1) := by decide +kernel
theorem dL_law_1059 : decode cL_law 1059 = .ok (.iadd, 1) := by decide +kernel
theorem dL_law_1060 : decode cL_law 1060 = .ok (.iaload, 1) := by decide +kernel
theorem dL_law_1061 : decode cL_law 1061 = .ok (.aload_n 0, 1) := by decide +kernel
theorem dL_law_1062 : decode cL_law 1062 = .ok (.iload_n 3, 1) := by decide +kernel
theorem dL_law_1063 : decode cL_law 1063 = .ok (.iconst 2, 1) := by decide +kernel
theorem dL_law_1064 : decode cL_law 1064 = .ok (.iadd, 1) := by decide +kernel
theorem dL_law_1065 : decode cL_law 1065 = .ok (.iaload, 1) := by decide +kernel
theorem dL_law_1066 : decode cL_law 1066 = .ok (.aload_n 0, 1) := by decide +kernel
theorem dL_law_1067 : decode cL_law 1067 = .ok (.iload_n 3, 1) := by decide +kernel
theorem dL_law_1068 : decode cL_law 1068 = .ok (.iconst 3, 1) := by decide +kernel
theorem dL_law_1069 : decode cL_law 1069 = .ok (.iadd, 1) := by decide +kernel
theorem dL_law_1070 : decode cL_law 1070 = .ok (.iaload, 1) := by decide +kernel
theorem dL_law_1071 : decode cL_law 1071 = .ok (.invokevirtual 129, 3) := by decide +kernel
theorem dL_law_1074 : decode cL_law 1074 = .ok (.aload_n 2, 1) := by decide +kernel
theorem dL_law_1075 : decode cL_law 1075 = .ok (.aload_n 0, 1) := by decide +kernel
theorem dL_law_1076 : decode cL_law 1076 = .ok (.iload_n 3, 1) := by decide +kernel
theorem dL_law_1077 : decode cL_law 1077 = .ok (.iconst 1, 1) := by decide +kernel
theorem dL_law_1078 : decode cL_law 1078 = .ok (.iadd, 1) := by decide +kernel
theorem dL_law_1079 : decode cL_law 1079 = .ok (.iaload, 1) := by decide +kernel
theorem dL_law_1080 : decode cL_law 1080 = .ok (.aload_n 0, 1) := by decide +kernel
theorem dL_law_1081 : decode cL_law 1081 = .ok (.iload_n 3, 1) := by decide +kernel
theorem dL_law_1082 : decode cL_law 1082 = .ok (.iconst 2, 1) := by decide +kernel
theorem dL_law_1083 : decode cL_law 1083 = .ok (.iadd, 1) := by decide +kernel
theorem dL_law_1084 : decode cL_law 1084 = .ok (.iaload, 1) := by decide +kernel
theorem dL_law_1085 : decode cL_law 1085 = .ok (.aload_n 0, 1) := by decide +kernel
theorem dL_law_1086 : decode cL_law 1086 = .ok (.iload_n 3, 1) := by decide +kernel
theorem dL_law_1087 : decode cL_law 1087 = .ok (.iconst 3, 1) := by decide +kernel
theorem dL_law_1088 : decode cL_law 1088 = .ok (.iadd, 1) := by decide +kernel
theorem dL_law_1089 : decode cL_law 1089 = .ok (.iaload, 1) := by decide +kernel
theorem dL_law_1090 : decode cL_law 1090 = .ok (.invokevirtual 132, 3) := by decide +kernel
theorem dL_law_1093 : decode cL_law 1093 = .ok (.lcmp, 1) := by decide +kernel
theorem dL_law_1094 : decode cL_law 1094 = .ok (.ifCond .eq 110, 3) := by decide +kernel
theorem dL_law_1097 : decode cL_law 1097 = .ok (.iconst 0, 1) := by decide +kernel
theorem dL_law_1098 : decode cL_law 1098 = .ok (.ireturn, 1) := by decide +kernel
theorem dL_law_1099 : decode cL_law 1099 = .ok (.aload_n 1, 1) := by decide +kernel
theorem dL_law_1100 : decode cL_law 1100 = .ok (.aload_n 0, 1) := by decide +kernel
theorem dL_law_1101 : decode cL_law 1101 = .ok (.iload_n 3, 1) := by decide +kernel
theorem dL_law_1102 : decode cL_law 1102 = .ok (.iconst 1, 1) := by decide +kernel
theorem dL_law_1103 : decode cL_law 1103 = .ok (.iadd, 1) := by decide +kernel
theorem dL_law_1104 : decode cL_law 1104 = .ok (.iaload, 1) := by decide +kernel
theorem dL_law_1105 : decode cL_law 1105 = .ok (.invokevirtual 133, 3) := by decide +kernel
theorem dL_law_1108 : decode cL_law 1108 = .ok (.aload_n 2, 1) := by decide +kernel
theorem dL_law_1109 : decode cL_law 1109 = .ok (.aload_n 0, 1) := by decide +kernel
theorem dL_law_1110 : decode cL_law 1110 = .ok (.iload_n 3, 1) := by decide +kernel
theorem dL_law_1111 : decode cL_law 1111 = .ok (.iconst 1, 1) := by decide +kernel
theorem dL_law_1112 : decode cL_law 1112 = .ok (.iadd, 1) := by decide +kernel
theorem dL_law_1113 : decode cL_law 1113 = .ok (.iaload, 1) := by decide +kernel
theorem dL_law_1114 : decode cL_law 1114 = .ok (.invokevirtual 136, 3) := by decide +kernel
theorem dL_law_1117 : decode cL_law 1117 = .ok (.if_icmp .eq 87, 3) := by decide +kernel
theorem dL_law_1120 : decode cL_law 1120 = .ok (.iconst 0, 1) := by decide +kernel
theorem dL_law_1121 : decode cL_law 1121 = .ok (.ireturn, 1) := by decide +kernel
theorem dL_law_1122 : decode cL_law 1122 = .ok (.aload_n 1, 1) := by decide +kernel
theorem dL_law_1123 : decode cL_law 1123 = .ok (.aload_n 0, 1) := by decide +kernel
theorem dL_law_1124 : decode cL_law 1124 = .ok (.iload_n 3, 1) := by decide +kernel
theorem dL_law_1125 : decode cL_law 1125 = .ok (.iconst 1, 1) := by decide +kernel
theorem dL_law_1126 : decode cL_law 1126 = .ok (.iadd, 1) := by decide +kernel
theorem dL_law_1127 : decode cL_law 1127 = .ok (.iaload, 1) := by decide +kernel
theorem dL_law_1128 : decode cL_law 1128 = .ok (.invokevirtual 137, 3) := by decide +kernel
theorem dL_law_1131 : decode cL_law 1131 = .ok (.aload_n 2, 1) := by decide +kernel
theorem dL_law_1132 : decode cL_law 1132 = .ok (.aload_n 0, 1) := by decide +kernel
theorem dL_law_1133 : decode cL_law 1133 = .ok (.iload_n 3, 1) := by decide +kernel
theorem dL_law_1134 : decode cL_law 1134 = .ok (.iconst 1, 1) := by decide +kernel
theorem dL_law_1135 : decode cL_law 1135 = .ok (.iadd, 1) := by decide +kernel
theorem dL_law_1136 : decode cL_law 1136 = .ok (.iaload, 1) := by decide +kernel
theorem dL_law_1137 : decode cL_law 1137 = .ok (.invokevirtual 140, 3) := by decide +kernel
theorem dL_law_1140 : decode cL_law 1140 = .ok (.if_icmp .eq 64, 3) := by decide +kernel
theorem dL_law_1143 : decode cL_law 1143 = .ok (.iconst 0, 1) := by decide +kernel
theorem dL_law_1144 : decode cL_law 1144 = .ok (.ireturn, 1) := by decide +kernel
theorem dL_law_1145 : decode cL_law 1145 = .ok (.aload_n 1, 1) := by decide +kernel
theorem dL_law_1146 : decode cL_law 1146 = .ok (.aload_n 0, 1) := by decide +kernel
theorem dL_law_1147 : decode cL_law 1147 = .ok (.iload_n 3, 1) := by decide +kernel
theorem dL_law_1148 : decode cL_law 1148 = .ok (.iconst 1, 1) := by decide +kernel
theorem dL_law_1149 : decode cL_law 1149 = .ok (.iadd, 1) := by decide +kernel
theorem dL_law_1150 : decode cL_law 1150 = .ok (.iaload, 1) := by decide +kernel
theorem dL_law_1151 : decode cL_law 1151 = .ok (.aload_n 0, 1) := by decide +kernel
theorem dL_law_1152 : decode cL_law 1152 = .ok (.iload_n 3, 1) := by decide +kernel
theorem dL_law_1153 : decode cL_law 1153 = .ok (.iconst 2, 1) := by decide +kernel
theorem dL_law_1154 : decode cL_law 1154 = .ok (.iadd, 1) := by decide +kernel
theorem dL_law_1155 : decode cL_law 1155 = .ok (.iaload, 1) := by decide +kernel
theorem dL_law_1156 : decode cL_law 1156 = .ok (.invokevirtual 141, 3) := by decide +kernel
theorem dL_law_1159 : decode cL_law 1159 = .ok (.aload_n 2, 1) := by decide +kernel
theorem dL_law_1160 : decode cL_law 1160 = .ok (.aload_n 0, 1) := by decide +kernel
theorem dL_law_1161 : decode cL_law 1161 = .ok (.iload_n 3, 1) := by decide +kernel
theorem dL_law_1162 : decode cL_law 1162 = .ok (.iconst 1, 1) := by decide +kernel
theorem dL_law_1163 : decode cL_law 1163 = .ok (.iadd, 1) := by decide +kernel
theorem dL_law_1164 : decode cL_law 1164 = .ok (.iaload, 1) := by decide +kernel
theorem dL_law_1165 : decode cL_law 1165 = .ok (.aload_n 0, 1) := by decide +kernel
theorem dL_law_1166 : decode cL_law 1166 = .ok (.iload_n 3, 1) := by decide +kernel
theorem dL_law_1167 : decode cL_law 1167 = .ok (.iconst 2, 1) := by decide +kernel
theorem dL_law_1168 : decode cL_law 1168 = .ok (.iadd, 1) := by decide +kernel
theorem dL_law_1169 : decode cL_law 1169 = .ok (.iaload, 1) := by decide +kernel
theorem dL_law_1170 : decode cL_law 1170 = .ok (.invokevirtual 144, 3) := by decide +kernel
theorem dL_law_1173 : decode cL_law 1173 = .ok (.if_icmp .eq 31, 3) := by decide +kernel
theorem dL_law_1176 : decode cL_law 1176 = .ok (.iconst 0, 1) := by decide +kernel
theorem dL_law_1177 : decode cL_law 1177 = .ok (.ireturn, 1) := by decide +kernel
theorem dL_law_1178 : decode cL_law 1178 = .ok (.aload_n 1, 1) := by decide +kernel
theorem dL_law_1179 : decode cL_law 1179 = .ok (.invokevirtual 145, 3) := by decide +kernel
theorem dL_law_1182 : decode cL_law 1182 = .ok (.aload_n 2, 1) := by decide +kernel
theorem dL_law_1183 : decode cL_law 1183 = .ok (.invokevirtual 148, 3) := by decide +kernel
theorem dL_law_1186 : decode cL_law 1186 = .ok (.if_icmp .eq 18, 3) := by decide +kernel
theorem dL_law_1189 : decode cL_law 1189 = .ok (.iconst 0, 1) := by decide +kernel
theorem dL_law_1190 : decode cL_law 1190 = .ok (.ireturn, 1) := by decide +kernel
theorem dL_law_1191 : decode cL_law 1191 = .ok (.aload_n 1, 1) := by decide +kernel
theorem dL_law_1192 : decode cL_law 1192 = .ok (.invokevirtual 149, 3) := by decide +kernel
theorem dL_law_1195 : decode cL_law 1195 = .ok (.aload_n 2, 1) := by decide +kernel
theorem dL_law_1196 : decode cL_law 1196 = .ok (.invokevirtual 152, 3) := by decide +kernel
theorem dL_law_1199 : decode cL_law 1199 = .ok (.if_icmp .eq 5, 3) := by decide +kernel
theorem dL_law_1202 : decode cL_law 1202 = .ok (.iconst 0, 1) := by decide +kernel
theorem dL_law_1203 : decode cL_law 1203 = .ok (.ireturn, 1) := by decide +kernel
theorem dL_law_1204 : decode cL_law 1204 = .ok (.iinc 3 6, 3) := by decide +kernel
theorem dL_law_1207 : decode cL_law 1207 = .ok (.goto (-1189), 3) := by decide +kernel
theorem dL_law_1210 : decode cL_law 1210 = .ok (.iconst 1, 1) := by decide +kernel
theorem dL_law_1211 : decode cL_law 1211 = .ok (.ireturn, 1) := by decide +kernel
abbrev vwCl : List vw_C := [(RX0, TX0, 1), (RX1, TX1, 8), (RX2, TX2, 5), (RX3, TX3, 4), (RX4, TX4, 9), (RX5, TX5, 2), (RX6, TX6, 2), (RX7, TX7, 7), (RX8, TX8, 14), (RX9, TX9, 4), (RX10, TX10, 5), (RX11, TX11, 10), (RX12, TX12, 52)]
end
section
def lw_g : List Cond := lw_tbl.filter goodWord
theorem lw_in1 {w : Cond} (h : w ∈ tables_1_1) : w ∈ lw_tbl := List.mem_append_right _ (show w ∈ tables_1 from List.mem_append_left _ h)
theorem lw_in2 {w : Cond} (h : w ∈ tables_1_2) : w ∈ lw_tbl := List.mem_append_right _ (show w ∈ tables_1 from List.mem_append_right _ (List.mem_append_left _ h))
theorem lw_in3 {w : Cond} (h : w ∈ tables_1_3) : w ∈ lw_tbl := List.mem_append_right _ (show w ∈ tables_1 from List.mem_append_right _ (List.mem_append_right _ (List.mem_append_left _ h)))
theorem lw_in4 {w : Cond} (h : w ∈ tables_1_4) : w ∈ lw_tbl := List.mem_append_right _ (show w ∈ tables_1 from List.mem_append_right _ (List.mem_append_right _ (List.mem_append_right _ (List.mem_append_left _ h))))
theorem lw_in5 {w : Cond} (h : w ∈ tables_1_5) : w ∈ lw_tbl := List.mem_append_right _ (show w ∈ tables_1 from List.mem_append_right _ (List.mem_append_right _ (List.mem_append_right _ (List.mem_append_right _ (List.mem_append_left _ h)))))
theorem lw_in6 {w : Cond} (h : w ∈ tables_1_6) : w ∈ lw_tbl := List.mem_append_right _ (show w ∈ tables_1 from List.mem_append_right _ (List.mem_append_right _ (List.mem_append_right _ (List.mem_append_right _ (List.mem_append_right _ (h))))))
theorem lw_gg {w : Cond} (h : w ∈ lw_tbl) (hg : goodWord w = true) : w ∈ lw_g := List.mem_filter.mpr ⟨h, hg⟩
set_option maxRecDepth 20000 in
theorem hZ_L : Cond.initialized RL ∈ lw_g := lw_gg (lw_in1 (List.mem_of_getElem? (i := 0) rfl)) rfl
set_option maxRecDepth 20000 in
theorem hZ_X11 : Cond.initialized RX11 ∈ lw_g := lw_gg (lw_in1 (List.mem_of_getElem? (i := 1) rfl)) rfl
set_option maxRecDepth 20000 in
theorem hZ_X3 : Cond.initialized RX3 ∈ lw_g := lw_gg (lw_in1 (List.mem_of_getElem? (i := 2) rfl)) rfl
set_option maxRecDepth 20000 in
theorem hZ_X6 : Cond.initialized RX6 ∈ lw_g := lw_gg (lw_in1 (List.mem_of_getElem? (i := 3) rfl)) rfl
set_option maxRecDepth 20000 in
theorem hZ_X2 : Cond.initialized RX2 ∈ lw_g := lw_gg (lw_in1 (List.mem_of_getElem? (i := 4) rfl)) rfl
set_option maxRecDepth 20000 in
theorem hZ_X10 : Cond.initialized RX10 ∈ lw_g := lw_gg (lw_in1 (List.mem_of_getElem? (i := 5) rfl)) rfl
set_option maxRecDepth 20000 in
theorem hZ_X5 : Cond.initialized RX5 ∈ lw_g := lw_gg (lw_in1 (List.mem_of_getElem? (i := 6) rfl)) rfl
set_option maxRecDepth 20000 in
theorem hZ_X8 : Cond.initialized RX8 ∈ lw_g := lw_gg (lw_in1 (List.mem_of_getElem? (i := 7) rfl)) rfl
set_option maxRecDepth 20000 in
theorem hZ_X7 : Cond.initialized RX7 ∈ lw_g := lw_gg (lw_in1 (List.mem_of_getElem? (i := 8) rfl)) rfl
set_option maxRecDepth 20000 in
theorem hZ_X4 : Cond.initialized RX4 ∈ lw_g := lw_gg (lw_in1 (List.mem_of_getElem? (i := 9) rfl)) rfl
set_option maxRecDepth 20000 in
theorem hZ_X0 : Cond.initialized RX0 ∈ lw_g := lw_gg (lw_in1 (List.mem_of_getElem? (i := 10) rfl)) rfl
set_option maxRecDepth 20000 in
theorem hZ_X9 : Cond.initialized RX9 ∈ lw_g := lw_gg (lw_in1 (List.mem_of_getElem? (i := 11) rfl)) rfl
set_option maxRecDepth 20000 in
theorem hZ_X12 : Cond.initialized RX12 ∈ lw_g := lw_gg (lw_in1 (List.mem_of_getElem? (i := 12) rfl)) rfl
set_option maxRecDepth 20000 in
theorem hZ_J9 : Cond.initialized RJ9 ∈ lw_g := lw_gg (lw_in1 (List.mem_of_getElem? (i := 13) rfl)) rfl
set_option maxRecDepth 20000 in
theorem hZ_J6 : Cond.initialized RJ6 ∈ lw_g := lw_gg (lw_in1 (List.mem_of_getElem? (i := 14) rfl)) rfl
set_option maxRecDepth 20000 in
theorem hZ_X1 : Cond.initialized RX1 ∈ lw_g := lw_gg (lw_in1 (List.mem_of_getElem? (i := 15) rfl)) rfl
set_option maxRecDepth 20000 in
theorem hL_L_7 : Cond.classLink RL 7 RX11 ∈ lw_g := lw_gg (lw_in1 (List.mem_of_getElem? (i := 16) rfl)) rfl
set_option maxRecDepth 20000 in
theorem hB_X11 : Cond.instantiable RX11 10 ∈ lw_g := lw_gg (lw_in1 (List.mem_of_getElem? (i := 17) rfl)) rfl
set_option maxRecDepth 20000 in
theorem hM_L_9 : Cond.methodLink RL 9 yX11_init ∈ lw_g := lw_gg (lw_in1 (List.mem_of_getElem? (i := 18) rfl)) rfl
set_option maxRecDepth 20000 in
theorem hI_X11_init : Cond.instanceMethod yX11_init ∈ lw_g := lw_gg (lw_in1 (List.mem_of_getElem? (i := 19) rfl)) rfl
set_option maxRecDepth 20000 in
theorem hC_X11_init : Cond.code yX11_init cX11_init 2 none ∈ lw_g := lw_gg (lw_in1 (List.mem_of_getElem? (i := 20) rfl)) rfl
set_option maxRecDepth 20000 in
theorem hM_X11_3 : Cond.methodLink RX11 3 objectInit ∈ lw_g := lw_gg (lw_in1 (List.mem_of_getElem? (i := 21) rfl)) rfl
set_option maxRecDepth 20000 in
theorem hI_obj : Cond.instanceMethod objectInit ∈ lw_g := lw_gg (lw_in1 (List.mem_of_getElem? (i := 22) rfl)) rfl
set_option maxRecDepth 20000 in
theorem hC_obj : Cond.code objectInit ⟨#[0xb1]⟩ 1 none ∈ lw_g := lw_gg (lw_in1 (List.mem_of_getElem? (i := 23) rfl)) rfl
set_option maxRecDepth 20000 in
theorem hL_X11_15 : Cond.classLink RX11 15 RX3 ∈ lw_g := lw_gg (lw_in1 (List.mem_of_getElem? (i := 24) rfl)) rfl
set_option maxRecDepth 20000 in
theorem hB_X3 : Cond.instantiable RX3 4 ∈ lw_g := lw_gg (lw_in1 (List.mem_of_getElem? (i := 25) rfl)) rfl
set_option maxRecDepth 20000 in
theorem hM_X11_17 : Cond.methodLink RX11 17 yX3_init ∈ lw_g := lw_gg (lw_in1 (List.mem_of_getElem? (i := 26) rfl)) rfl
set_option maxRecDepth 20000 in
theorem hI_X3_init : Cond.instanceMethod yX3_init ∈ lw_g := lw_gg (lw_in1 (List.mem_of_getElem? (i := 27) rfl)) rfl
set_option maxRecDepth 20000 in
theorem hC_X3_init : Cond.code yX3_init cX3_init 1 none ∈ lw_g := lw_gg (lw_in1 (List.mem_of_getElem? (i := 28) rfl)) rfl
set_option maxRecDepth 20000 in
theorem hM_X3_3 : Cond.methodLink RX3 3 objectInit ∈ lw_g := lw_gg (lw_in1 (List.mem_of_getElem? (i := 29) rfl)) rfl
set_option maxRecDepth 20000 in
theorem hF_X3_9 : Cond.fieldLink RX3 9 "EngineCell$Engine" "map" "[I" ∈ lw_g := lw_gg (lw_in1 (List.mem_of_getElem? (i := 30) rfl)) rfl
set_option maxRecDepth 20000 in
theorem hF_X3_15 : Cond.fieldLink RX3 15 "EngineCell$Engine" "past" "[I" ∈ lw_g := lw_gg (lw_in1 (List.mem_of_getElem? (i := 31) rfl)) rfl
set_option maxRecDepth 20000 in
theorem hF_X3_18 : Cond.fieldLink RX3 18 "EngineCell$Engine" "lag" "I" ∈ lw_g := lw_gg (lw_in1 (List.mem_of_getElem? (i := 32) rfl)) rfl
set_option maxRecDepth 20000 in
theorem hF_X11_108 : Cond.fieldLink RX11 108 "EngineCell$Engine" "lag" "I" ∈ lw_g := lw_gg (lw_in1 (List.mem_of_getElem? (i := 33) rfl)) rfl
set_option maxRecDepth 20000 in
theorem hF_X3_22 : Cond.fieldLink RX3 22 "EngineCell$Engine" "tick" "I" ∈ lw_g := lw_gg (lw_in1 (List.mem_of_getElem? (i := 34) rfl)) rfl
set_option maxRecDepth 20000 in
theorem hF_X4_41 : Cond.fieldLink RX4 41 "EngineCell$Engine" "tick" "I" ∈ lw_g := lw_gg (lw_in1 (List.mem_of_getElem? (i := 35) rfl)) rfl
set_option maxRecDepth 20000 in
theorem hF_X7_42 : Cond.fieldLink RX7 42 "EngineCell$Engine" "tick" "I" ∈ lw_g := lw_gg (lw_in1 (List.mem_of_getElem? (i := 36) rfl)) rfl
set_option maxRecDepth 20000 in
theorem hF_X8_76 : Cond.fieldLink RX8 76 "EngineCell$Engine" "tick" "I" ∈ lw_g := lw_gg (lw_in1 (List.mem_of_getElem? (i := 37) rfl)) rfl
set_option maxRecDepth 20000 in
theorem hF_X11_159 : Cond.fieldLink RX11 159 "EngineCell$Engine" "tick" "I" ∈ lw_g := lw_gg (lw_in1 (List.mem_of_getElem? (i := 38) rfl)) rfl
set_option maxRecDepth 20000 in
theorem hA_int : Cond.arrayClass .int ∈ lw_g := lw_gg (lw_in1 (List.mem_of_getElem? (i := 48) rfl)) rfl
set_option maxRecDepth 20000 in
theorem hL_X11_22 : Cond.classLink RX11 22 RX6 ∈ lw_g := lw_gg (lw_in1 (List.mem_of_getElem? (i := 49) rfl)) rfl
set_option maxRecDepth 20000 in
theorem hB_X6 : Cond.instantiable RX6 2 ∈ lw_g := lw_gg (lw_in1 (List.mem_of_getElem? (i := 50) rfl)) rfl
set_option maxRecDepth 20000 in
theorem hM_X11_24 : Cond.methodLink RX11 24 yX6_init ∈ lw_g := lw_gg (lw_in1 (List.mem_of_getElem? (i := 51) rfl)) rfl
set_option maxRecDepth 20000 in
theorem hI_X6_init : Cond.instanceMethod yX6_init ∈ lw_g := lw_gg (lw_in1 (List.mem_of_getElem? (i := 52) rfl)) rfl
set_option maxRecDepth 20000 in
theorem hC_X6_init : Cond.code yX6_init cX6_init 1 none ∈ lw_g := lw_gg (lw_in1 (List.mem_of_getElem? (i := 53) rfl)) rfl
set_option maxRecDepth 20000 in
theorem hM_X6_3 : Cond.methodLink RX6 3 objectInit ∈ lw_g := lw_gg (lw_in1 (List.mem_of_getElem? (i := 54) rfl)) rfl
set_option maxRecDepth 20000 in
theorem hF_X6_9 : Cond.fieldLink RX6 9 "EngineCell$Program" "cells" "[I" ∈ lw_g := lw_gg (lw_in1 (List.mem_of_getElem? (i := 55) rfl)) rfl
set_option maxRecDepth 20000 in
theorem hF_X6_15 : Cond.fieldLink RX6 15 "EngineCell$Program" "count" "I" ∈ lw_g := lw_gg (lw_in1 (List.mem_of_getElem? (i := 56) rfl)) rfl
set_option maxRecDepth 20000 in
theorem hF_X11_111 : Cond.fieldLink RX11 111 "EngineCell$Program" "count" "I" ∈ lw_g := lw_gg (lw_in1 (List.mem_of_getElem? (i := 57) rfl)) rfl
set_option maxRecDepth 20000 in
theorem hF_X8_88 : Cond.fieldLink RX8 88 "EngineCell$Program" "count" "I" ∈ lw_g := lw_gg (lw_in1 (List.mem_of_getElem? (i := 58) rfl)) rfl
set_option maxRecDepth 20000 in
theorem hL_X11_29 : Cond.classLink RX11 29 RX2 ∈ lw_g := lw_gg (lw_in1 (List.mem_of_getElem? (i := 64) rfl)) rfl
set_option maxRecDepth 20000 in
theorem hB_X2 : Cond.instantiable RX2 5 ∈ lw_g := lw_gg (lw_in1 (List.mem_of_getElem? (i := 65) rfl)) rfl
set_option maxRecDepth 20000 in
theorem hM_X11_31 : Cond.methodLink RX11 31 yX2_init ∈ lw_g := lw_gg (lw_in1 (List.mem_of_getElem? (i := 66) rfl)) rfl
set_option maxRecDepth 20000 in
theorem hI_X2_init : Cond.instanceMethod yX2_init ∈ lw_g := lw_gg (lw_in1 (List.mem_of_getElem? (i := 67) rfl)) rfl
set_option maxRecDepth 20000 in
theorem hC_X2_init : Cond.code yX2_init cX2_init 2 none ∈ lw_g := lw_gg (lw_in1 (List.mem_of_getElem? (i := 68) rfl)) rfl
set_option maxRecDepth 20000 in
theorem hM_X2_3 : Cond.methodLink RX2 3 objectInit ∈ lw_g := lw_gg (lw_in1 (List.mem_of_getElem? (i := 69) rfl)) rfl
set_option maxRecDepth 20000 in
theorem hL_X2_9 : Cond.classLink RX2 9 RX1 ∈ lw_g := lw_gg (lw_in1 (List.mem_of_getElem? (i := 70) rfl)) rfl
set_option maxRecDepth 20000 in
theorem hO_X1 : Cond.arrayOver (.object "EngineCell$Channel") ∈ lw_tbl := lw_in1 (List.mem_of_getElem? (i := 71) rfl)
set_option maxRecDepth 20000 in
theorem hL_X2_17 : Cond.classLink RX2 17 RX10 ∈ lw_g := lw_gg (lw_in1 (List.mem_of_getElem? (i := 72) rfl)) rfl
set_option maxRecDepth 20000 in
theorem hB_X10 : Cond.instantiable RX10 5 ∈ lw_g := lw_gg (lw_in1 (List.mem_of_getElem? (i := 73) rfl)) rfl
set_option maxRecDepth 20000 in
theorem hM_X2_19 : Cond.methodLink RX2 19 yX10_init ∈ lw_g := lw_gg (lw_in1 (List.mem_of_getElem? (i := 74) rfl)) rfl
set_option maxRecDepth 20000 in
theorem hI_X10_init : Cond.instanceMethod yX10_init ∈ lw_g := lw_gg (lw_in1 (List.mem_of_getElem? (i := 75) rfl)) rfl
set_option maxRecDepth 20000 in
theorem hC_X10_init : Cond.code yX10_init cX10_init 1 none ∈ lw_g := lw_gg (lw_in1 (List.mem_of_getElem? (i := 76) rfl)) rfl
set_option maxRecDepth 20000 in
theorem hM_X10_3 : Cond.methodLink RX10 3 objectInit ∈ lw_g := lw_gg (lw_in1 (List.mem_of_getElem? (i := 77) rfl)) rfl
set_option maxRecDepth 20000 in
theorem hF_X10_9 : Cond.fieldLink RX10 9 "EngineCell$Tellings" "channels" "[I" ∈ lw_g := lw_gg (lw_in1 (List.mem_of_getElem? (i := 78) rfl)) rfl
set_option maxRecDepth 20000 in
theorem hF_X10_15 : Cond.fieldLink RX10 15 "EngineCell$Tellings" "froms" "[I" ∈ lw_g := lw_gg (lw_in1 (List.mem_of_getElem? (i := 79) rfl)) rfl
set_option maxRecDepth 20000 in
theorem hF_X10_18 : Cond.fieldLink RX10 18 "EngineCell$Tellings" "firsts" "[I" ∈ lw_g := lw_gg (lw_in1 (List.mem_of_getElem? (i := 80) rfl)) rfl
set_option maxRecDepth 20000 in
theorem hF_X10_21 : Cond.fieldLink RX10 21 "EngineCell$Tellings" "seconds" "[I" ∈ lw_g := lw_gg (lw_in1 (List.mem_of_getElem? (i := 81) rfl)) rfl
set_option maxRecDepth 20000 in
theorem hF_X10_24 : Cond.fieldLink RX10 24 "EngineCell$Tellings" "count" "I" ∈ lw_g := lw_gg (lw_in1 (List.mem_of_getElem? (i := 82) rfl)) rfl
set_option maxRecDepth 20000 in
theorem hF_X11_190 : Cond.fieldLink RX11 190 "EngineCell$Tellings" "count" "I" ∈ lw_g := lw_gg (lw_in1 (List.mem_of_getElem? (i := 83) rfl)) rfl
set_option maxRecDepth 20000 in
theorem hF_X2_31 : Cond.fieldLink RX2 31 "EngineCell$Channels" "engine" "LEngineCell$Engine;" ∈ lw_g := lw_gg (lw_in1 (List.mem_of_getElem? (i := 95) rfl)) rfl
set_option maxRecDepth 20000 in
theorem hF_X2_11 : Cond.fieldLink RX2 11 "EngineCell$Channels" "rows" "[LEngineCell$Channel;" ∈ lw_g := lw_gg (lw_in1 (List.mem_of_getElem? (i := 96) rfl)) rfl
set_option maxRecDepth 20000 in
theorem hF_X2_20 : Cond.fieldLink RX2 20 "EngineCell$Channels" "losses" "LEngineCell$Tellings;" ∈ lw_g := lw_gg (lw_in1 (List.mem_of_getElem? (i := 97) rfl)) rfl
set_option maxRecDepth 20000 in
theorem hF_X11_219 : Cond.fieldLink RX11 219 "EngineCell$Channels" "losses" "LEngineCell$Tellings;" ∈ lw_g := lw_gg (lw_in1 (List.mem_of_getElem? (i := 98) rfl)) rfl
set_option maxRecDepth 20000 in
theorem hF_X2_24 : Cond.fieldLink RX2 24 "EngineCell$Channels" "corrections" "LEngineCell$Tellings;" ∈ lw_g := lw_gg (lw_in1 (List.mem_of_getElem? (i := 99) rfl)) rfl
set_option maxRecDepth 20000 in
theorem hF_X11_186 : Cond.fieldLink RX11 186 "EngineCell$Channels" "corrections" "LEngineCell$Tellings;" ∈ lw_g := lw_gg (lw_in1 (List.mem_of_getElem? (i := 100) rfl)) rfl
set_option maxRecDepth 20000 in
theorem hF_X2_27 : Cond.fieldLink RX2 27 "EngineCell$Channels" "count" "I" ∈ lw_g := lw_gg (lw_in1 (List.mem_of_getElem? (i := 101) rfl)) rfl
set_option maxRecDepth 20000 in
theorem hF_X11_185 : Cond.fieldLink RX11 185 "EngineCell$Channels" "count" "I" ∈ lw_g := lw_gg (lw_in1 (List.mem_of_getElem? (i := 102) rfl)) rfl
set_option maxRecDepth 20000 in
theorem hL_X11_38 : Cond.classLink RX11 38 RX5 ∈ lw_g := lw_gg (lw_in1 (List.mem_of_getElem? (i := 114) rfl)) rfl
set_option maxRecDepth 20000 in
theorem hB_X5 : Cond.instantiable RX5 2 ∈ lw_g := lw_gg (lw_in1 (List.mem_of_getElem? (i := 115) rfl)) rfl
set_option maxRecDepth 20000 in
theorem hM_X11_40 : Cond.methodLink RX11 40 yX5_init ∈ lw_g := lw_gg (lw_in1 (List.mem_of_getElem? (i := 116) rfl)) rfl
set_option maxRecDepth 20000 in
theorem hI_X5_init : Cond.instanceMethod yX5_init ∈ lw_g := lw_gg (lw_in1 (List.mem_of_getElem? (i := 117) rfl)) rfl
set_option maxRecDepth 20000 in
theorem hC_X5_init : Cond.code yX5_init cX5_init 1 none ∈ lw_g := lw_gg (lw_in1 (List.mem_of_getElem? (i := 118) rfl)) rfl
set_option maxRecDepth 20000 in
theorem hM_X5_3 : Cond.methodLink RX5 3 objectInit ∈ lw_g := lw_gg (lw_in1 (List.mem_of_getElem? (i := 119) rfl)) rfl
set_option maxRecDepth 20000 in
theorem hF_X5_9 : Cond.fieldLink RX5 9 "EngineCell$Marks" "ticks" "[I" ∈ lw_g := lw_gg (lw_in1 (List.mem_of_getElem? (i := 120) rfl)) rfl
set_option maxRecDepth 20000 in
theorem hF_X5_15 : Cond.fieldLink RX5 15 "EngineCell$Marks" "count" "I" ∈ lw_g := lw_gg (lw_in1 (List.mem_of_getElem? (i := 121) rfl)) rfl
set_option maxRecDepth 20000 in
theorem hF_X7_96 : Cond.fieldLink RX7 96 "EngineCell$Marks" "count" "I" ∈ lw_g := lw_gg (lw_in1 (List.mem_of_getElem? (i := 122) rfl)) rfl
set_option maxRecDepth 20000 in
theorem hF_X11_172 : Cond.fieldLink RX11 172 "EngineCell$Marks" "count" "I" ∈ lw_g := lw_gg (lw_in1 (List.mem_of_getElem? (i := 123) rfl)) rfl
set_option maxRecDepth 20000 in
theorem hL_X11_45 : Cond.classLink RX11 45 RX8 ∈ lw_g := lw_gg (lw_in1 (List.mem_of_getElem? (i := 129) rfl)) rfl
set_option maxRecDepth 20000 in
theorem hB_X8 : Cond.instantiable RX8 14 ∈ lw_g := lw_gg (lw_in1 (List.mem_of_getElem? (i := 130) rfl)) rfl
set_option maxRecDepth 20000 in
theorem hM_X11_47 : Cond.methodLink RX11 47 yX8_init ∈ lw_g := lw_gg (lw_in1 (List.mem_of_getElem? (i := 131) rfl)) rfl
set_option maxRecDepth 20000 in
theorem hI_X8_init : Cond.instanceMethod yX8_init ∈ lw_g := lw_gg (lw_in1 (List.mem_of_getElem? (i := 132) rfl)) rfl
set_option maxRecDepth 20000 in
theorem hC_X8_init : Cond.code yX8_init cX8_init 5 none ∈ lw_g := lw_gg (lw_in1 (List.mem_of_getElem? (i := 133) rfl)) rfl
set_option maxRecDepth 20000 in
theorem hM_X8_3 : Cond.methodLink RX8 3 objectInit ∈ lw_g := lw_gg (lw_in1 (List.mem_of_getElem? (i := 134) rfl)) rfl
set_option maxRecDepth 20000 in
theorem hF_X8_43 : Cond.fieldLink RX8 43 "EngineCell$Room" "engine" "LEngineCell$Engine;" ∈ lw_g := lw_gg (lw_in1 (List.mem_of_getElem? (i := 135) rfl)) rfl
set_option maxRecDepth 20000 in
theorem hF_X8_47 : Cond.fieldLink RX8 47 "EngineCell$Room" "program" "LEngineCell$Program;" ∈ lw_g := lw_gg (lw_in1 (List.mem_of_getElem? (i := 136) rfl)) rfl
set_option maxRecDepth 20000 in
theorem hF_X8_51 : Cond.fieldLink RX8 51 "EngineCell$Room" "channels" "LEngineCell$Channels;" ∈ lw_g := lw_gg (lw_in1 (List.mem_of_getElem? (i := 137) rfl)) rfl
set_option maxRecDepth 20000 in
theorem hF_X8_55 : Cond.fieldLink RX8 55 "EngineCell$Room" "marks" "LEngineCell$Marks;" ∈ lw_g := lw_gg (lw_in1 (List.mem_of_getElem? (i := 138) rfl)) rfl
set_option maxRecDepth 20000 in
theorem hF_X8_9 : Cond.fieldLink RX8 9 "EngineCell$Room" "ledBack" "[I" ∈ lw_g := lw_gg (lw_in1 (List.mem_of_getElem? (i := 139) rfl)) rfl
set_option maxRecDepth 20000 in
theorem hF_X8_15 : Cond.fieldLink RX8 15 "EngineCell$Room" "state" "I" ∈ lw_g := lw_gg (lw_in1 (List.mem_of_getElem? (i := 140) rfl)) rfl
set_option maxRecDepth 20000 in
theorem hF_X11_165 : Cond.fieldLink RX11 165 "EngineCell$Room" "state" "I" ∈ lw_g := lw_gg (lw_in1 (List.mem_of_getElem? (i := 141) rfl)) rfl
set_option maxRecDepth 20000 in
theorem hF_X8_19 : Cond.fieldLink RX8 19 "EngineCell$Room" "at" "I" ∈ lw_g := lw_gg (lw_in1 (List.mem_of_getElem? (i := 142) rfl)) rfl
set_option maxRecDepth 20000 in
theorem hF_X11_176 : Cond.fieldLink RX11 176 "EngineCell$Room" "at" "I" ∈ lw_g := lw_gg (lw_in1 (List.mem_of_getElem? (i := 143) rfl)) rfl
set_option maxRecDepth 20000 in
theorem hF_X8_22 : Cond.fieldLink RX8 22 "EngineCell$Room" "kind" "I" ∈ lw_g := lw_gg (lw_in1 (List.mem_of_getElem? (i := 144) rfl)) rfl
set_option maxRecDepth 20000 in
theorem hF_X11_179 : Cond.fieldLink RX11 179 "EngineCell$Room" "kind" "I" ∈ lw_g := lw_gg (lw_in1 (List.mem_of_getElem? (i := 145) rfl)) rfl
set_option maxRecDepth 20000 in
theorem hF_X8_25 : Cond.fieldLink RX8 25 "EngineCell$Room" "acts" "I" ∈ lw_g := lw_gg (lw_in1 (List.mem_of_getElem? (i := 146) rfl)) rfl
set_option maxRecDepth 20000 in
theorem hF_X11_182 : Cond.fieldLink RX11 182 "EngineCell$Room" "acts" "I" ∈ lw_g := lw_gg (lw_in1 (List.mem_of_getElem? (i := 147) rfl)) rfl
set_option maxRecDepth 20000 in
theorem hF_X8_28 : Cond.fieldLink RX8 28 "EngineCell$Room" "spent" "I" ∈ lw_g := lw_gg (lw_in1 (List.mem_of_getElem? (i := 148) rfl)) rfl
set_option maxRecDepth 20000 in
theorem hF_X8_31 : Cond.fieldLink RX8 31 "EngineCell$Room" "wanted" "I" ∈ lw_g := lw_gg (lw_in1 (List.mem_of_getElem? (i := 149) rfl)) rfl
set_option maxRecDepth 20000 in
theorem hF_X8_34 : Cond.fieldLink RX8 34 "EngineCell$Room" "pedal" "I" ∈ lw_g := lw_gg (lw_in1 (List.mem_of_getElem? (i := 150) rfl)) rfl
set_option maxRecDepth 20000 in
theorem hF_X8_37 : Cond.fieldLink RX8 37 "EngineCell$Room" "wantedAtFirst" "I" ∈ lw_g := lw_gg (lw_in1 (List.mem_of_getElem? (i := 151) rfl)) rfl
set_option maxRecDepth 20000 in
theorem hF_X8_40 : Cond.fieldLink RX8 40 "EngineCell$Room" "pedalAtFirst" "I" ∈ lw_g := lw_gg (lw_in1 (List.mem_of_getElem? (i := 152) rfl)) rfl
set_option maxRecDepth 20000 in
theorem hL_X11_54 : Cond.classLink RX11 54 RX7 ∈ lw_g := lw_gg (lw_in1 (List.mem_of_getElem? (i := 182) rfl)) rfl
set_option maxRecDepth 20000 in
theorem hB_X7 : Cond.instantiable RX7 7 ∈ lw_g := lw_gg (lw_in1 (List.mem_of_getElem? (i := 183) rfl)) rfl
set_option maxRecDepth 20000 in
theorem hM_X11_56 : Cond.methodLink RX11 56 yX7_init ∈ lw_g := lw_gg (lw_in1 (List.mem_of_getElem? (i := 184) rfl)) rfl
set_option maxRecDepth 20000 in
theorem hI_X7_init : Cond.instanceMethod yX7_init ∈ lw_g := lw_gg (lw_in1 (List.mem_of_getElem? (i := 185) rfl)) rfl
set_option maxRecDepth 20000 in
theorem hC_X7_init : Cond.code yX7_init cX7_init 4 none ∈ lw_g := lw_gg (lw_in1 (List.mem_of_getElem? (i := 186) rfl)) rfl
set_option maxRecDepth 20000 in
theorem hM_X7_3 : Cond.methodLink RX7 3 objectInit ∈ lw_g := lw_gg (lw_in1 (List.mem_of_getElem? (i := 187) rfl)) rfl
set_option maxRecDepth 20000 in
theorem hF_X7_26 : Cond.fieldLink RX7 26 "EngineCell$Reports" "engine" "LEngineCell$Engine;" ∈ lw_g := lw_gg (lw_in1 (List.mem_of_getElem? (i := 188) rfl)) rfl
set_option maxRecDepth 20000 in
theorem hF_X7_30 : Cond.fieldLink RX7 30 "EngineCell$Reports" "channels" "LEngineCell$Channels;" ∈ lw_g := lw_gg (lw_in1 (List.mem_of_getElem? (i := 189) rfl)) rfl
set_option maxRecDepth 20000 in
theorem hF_X7_34 : Cond.fieldLink RX7 34 "EngineCell$Reports" "marks" "LEngineCell$Marks;" ∈ lw_g := lw_gg (lw_in1 (List.mem_of_getElem? (i := 190) rfl)) rfl
set_option maxRecDepth 20000 in
theorem hF_X7_9 : Cond.fieldLink RX7 9 "EngineCell$Reports" "row" "[J" ∈ lw_g := lw_gg (lw_in1 (List.mem_of_getElem? (i := 191) rfl)) rfl
set_option maxRecDepth 20000 in
theorem hF_X7_15 : Cond.fieldLink RX7 15 "EngineCell$Reports" "ahead" "[J" ∈ lw_g := lw_gg (lw_in1 (List.mem_of_getElem? (i := 192) rfl)) rfl
set_option maxRecDepth 20000 in
theorem hF_X7_18 : Cond.fieldLink RX7 18 "EngineCell$Reports" "others" "[I" ∈ lw_g := lw_gg (lw_in1 (List.mem_of_getElem? (i := 193) rfl)) rfl
set_option maxRecDepth 20000 in
theorem hF_X7_22 : Cond.fieldLink RX7 22 "EngineCell$Reports" "otherCount" "I" ∈ lw_g := lw_gg (lw_in1 (List.mem_of_getElem? (i := 194) rfl)) rfl
set_option maxRecDepth 20000 in
theorem hF_X11_229 : Cond.fieldLink RX11 229 "EngineCell$Reports" "otherCount" "I" ∈ lw_g := lw_gg (lw_in1 (List.mem_of_getElem? (i := 195) rfl)) rfl
set_option maxRecDepth 20000 in
theorem hA_long : Cond.arrayClass .long ∈ lw_g := lw_gg (lw_in1 (List.mem_of_getElem? (i := 211) rfl)) rfl
set_option maxRecDepth 20000 in
theorem hL_X11_63 : Cond.classLink RX11 63 RX4 ∈ lw_g := lw_gg (lw_in1 (List.mem_of_getElem? (i := 212) rfl)) rfl
set_option maxRecDepth 20000 in
theorem hB_X4 : Cond.instantiable RX4 9 ∈ lw_g := lw_gg (lw_in1 (List.mem_of_getElem? (i := 213) rfl)) rfl
set_option maxRecDepth 20000 in
theorem hM_X11_65 : Cond.methodLink RX11 65 yX4_init ∈ lw_g := lw_gg (lw_in1 (List.mem_of_getElem? (i := 214) rfl)) rfl
set_option maxRecDepth 20000 in
theorem hI_X4_init : Cond.instanceMethod yX4_init ∈ lw_g := lw_gg (lw_in1 (List.mem_of_getElem? (i := 215) rfl)) rfl
set_option maxRecDepth 20000 in
theorem hC_X4_init : Cond.code yX4_init cX4_init 3 none ∈ lw_g := lw_gg (lw_in1 (List.mem_of_getElem? (i := 216) rfl)) rfl
set_option maxRecDepth 20000 in
theorem hM_X4_3 : Cond.methodLink RX4 3 objectInit ∈ lw_g := lw_gg (lw_in1 (List.mem_of_getElem? (i := 217) rfl)) rfl
set_option maxRecDepth 20000 in
theorem hF_X4_33 : Cond.fieldLink RX4 33 "EngineCell$Law" "engine" "LEngineCell$Engine;" ∈ lw_g := lw_gg (lw_in1 (List.mem_of_getElem? (i := 218) rfl)) rfl
set_option maxRecDepth 20000 in
theorem hF_X4_37 : Cond.fieldLink RX4 37 "EngineCell$Law" "channels" "LEngineCell$Channels;" ∈ lw_g := lw_gg (lw_in1 (List.mem_of_getElem? (i := 219) rfl)) rfl
set_option maxRecDepth 20000 in
theorem hF_X4_9 : Cond.fieldLink RX4 9 "EngineCell$Law" "n" "J" ∈ lw_g := lw_gg (lw_in1 (List.mem_of_getElem? (i := 220) rfl)) rfl
set_option maxRecDepth 20000 in
theorem hF_X11_263 : Cond.fieldLink RX11 263 "EngineCell$Law" "n" "J" ∈ lw_g := lw_gg (lw_in1 (List.mem_of_getElem? (i := 221) rfl)) rfl
set_option maxRecDepth 20000 in
theorem hF_X4_15 : Cond.fieldLink RX4 15 "EngineCell$Law" "off" "J" ∈ lw_g := lw_gg (lw_in1 (List.mem_of_getElem? (i := 222) rfl)) rfl
set_option maxRecDepth 20000 in
theorem hF_X11_274 : Cond.fieldLink RX11 274 "EngineCell$Law" "off" "J" ∈ lw_g := lw_gg (lw_in1 (List.mem_of_getElem? (i := 223) rfl)) rfl
set_option maxRecDepth 20000 in
theorem hF_X4_18 : Cond.fieldLink RX4 18 "EngineCell$Law" "farthest" "J" ∈ lw_g := lw_gg (lw_in1 (List.mem_of_getElem? (i := 224) rfl)) rfl
set_option maxRecDepth 20000 in
theorem hF_X11_277 : Cond.fieldLink RX11 277 "EngineCell$Law" "farthest" "J" ∈ lw_g := lw_gg (lw_in1 (List.mem_of_getElem? (i := 225) rfl)) rfl
set_option maxRecDepth 20000 in
theorem hF_X4_21 : Cond.fieldLink RX4 21 "EngineCell$Law" "sumX" "J" ∈ lw_g := lw_gg (lw_in1 (List.mem_of_getElem? (i := 226) rfl)) rfl
set_option maxRecDepth 20000 in
theorem hF_X4_24 : Cond.fieldLink RX4 24 "EngineCell$Law" "sumY" "J" ∈ lw_g := lw_gg (lw_in1 (List.mem_of_getElem? (i := 227) rfl)) rfl
set_option maxRecDepth 20000 in
theorem hF_X4_27 : Cond.fieldLink RX4 27 "EngineCell$Law" "sumXX" "J" ∈ lw_g := lw_gg (lw_in1 (List.mem_of_getElem? (i := 228) rfl)) rfl
set_option maxRecDepth 20000 in
theorem hF_X4_30 : Cond.fieldLink RX4 30 "EngineCell$Law" "sumXY" "J" ∈ lw_g := lw_gg (lw_in1 (List.mem_of_getElem? (i := 229) rfl)) rfl
set_option maxRecDepth 20000 in
theorem hL_X11_72 : Cond.classLink RX11 72 RX0 ∈ lw_g := lw_gg (lw_in2 (List.mem_of_getElem? (i := 9) rfl)) rfl
set_option maxRecDepth 20000 in
theorem hB_X0 : Cond.instantiable RX0 1 ∈ lw_g := lw_gg (lw_in2 (List.mem_of_getElem? (i := 10) rfl)) rfl
set_option maxRecDepth 20000 in
theorem hM_X11_74 : Cond.methodLink RX11 74 yX0_init ∈ lw_g := lw_gg (lw_in2 (List.mem_of_getElem? (i := 11) rfl)) rfl
set_option maxRecDepth 20000 in
theorem hI_X0_init : Cond.instanceMethod yX0_init ∈ lw_g := lw_gg (lw_in2 (List.mem_of_getElem? (i := 12) rfl)) rfl
set_option maxRecDepth 20000 in
theorem hC_X0_init : Cond.code yX0_init cX0_init 1 none ∈ lw_g := lw_gg (lw_in2 (List.mem_of_getElem? (i := 13) rfl)) rfl
set_option maxRecDepth 20000 in
theorem hM_X0_3 : Cond.methodLink RX0 3 objectInit ∈ lw_g := lw_gg (lw_in2 (List.mem_of_getElem? (i := 14) rfl)) rfl
set_option maxRecDepth 20000 in
theorem hF_X0_9 : Cond.fieldLink RX0 9 "EngineCell$Bodies" "trace" "I" ∈ lw_g := lw_gg (lw_in2 (List.mem_of_getElem? (i := 15) rfl)) rfl
set_option maxRecDepth 20000 in
theorem hF_X11_302 : Cond.fieldLink RX11 302 "EngineCell$Bodies" "trace" "I" ∈ lw_g := lw_gg (lw_in2 (List.mem_of_getElem? (i := 16) rfl)) rfl
set_option maxRecDepth 20000 in
theorem hL_X11_79 : Cond.classLink RX11 79 RX9 ∈ lw_g := lw_gg (lw_in2 (List.mem_of_getElem? (i := 20) rfl)) rfl
set_option maxRecDepth 20000 in
theorem hO_X9 : Cond.arrayOver (.object "EngineCell$Sheet") ∈ lw_tbl := lw_in2 (List.mem_of_getElem? (i := 21) rfl)
set_option maxRecDepth 20000 in
theorem hB_X9 : Cond.instantiable RX9 4 ∈ lw_g := lw_gg (lw_in2 (List.mem_of_getElem? (i := 22) rfl)) rfl
set_option maxRecDepth 20000 in
theorem hM_X11_85 : Cond.methodLink RX11 85 yX9_init ∈ lw_g := lw_gg (lw_in2 (List.mem_of_getElem? (i := 23) rfl)) rfl
set_option maxRecDepth 20000 in
theorem hI_X9_init : Cond.instanceMethod yX9_init ∈ lw_g := lw_gg (lw_in2 (List.mem_of_getElem? (i := 24) rfl)) rfl
set_option maxRecDepth 20000 in
theorem hC_X9_init : Cond.code yX9_init cX9_init 1 none ∈ lw_g := lw_gg (lw_in2 (List.mem_of_getElem? (i := 25) rfl)) rfl
set_option maxRecDepth 20000 in
theorem hM_X9_3 : Cond.methodLink RX9 3 objectInit ∈ lw_g := lw_gg (lw_in2 (List.mem_of_getElem? (i := 26) rfl)) rfl
set_option maxRecDepth 20000 in
theorem hF_X9_9 : Cond.fieldLink RX9 9 "EngineCell$Sheet" "cells" "[I" ∈ lw_g := lw_gg (lw_in2 (List.mem_of_getElem? (i := 27) rfl)) rfl
set_option maxRecDepth 20000 in
theorem hF_X9_15 : Cond.fieldLink RX9 15 "EngineCell$Sheet" "length" "I" ∈ lw_g := lw_gg (lw_in2 (List.mem_of_getElem? (i := 28) rfl)) rfl
set_option maxRecDepth 20000 in
theorem hF_X9_19 : Cond.fieldLink RX9 19 "EngineCell$Sheet" "lane" "I" ∈ lw_g := lw_gg (lw_in2 (List.mem_of_getElem? (i := 29) rfl)) rfl
set_option maxRecDepth 20000 in
theorem hF_X9_22 : Cond.fieldLink RX9 22 "EngineCell$Sheet" "there" "Z" ∈ lw_g := lw_gg (lw_in2 (List.mem_of_getElem? (i := 30) rfl)) rfl
set_option maxRecDepth 20000 in
theorem hF_X11_283 : Cond.fieldLink RX11 283 "EngineCell$Sheet" "there" "Z" ∈ lw_g := lw_gg (lw_in2 (List.mem_of_getElem? (i := 31) rfl)) rfl
set_option maxRecDepth 20000 in
theorem hF_X11_18 : Cond.fieldLink RX11 18 "EngineCell" "engine" "LEngineCell$Engine;" ∈ lw_g := lw_gg (lw_in2 (List.mem_of_getElem? (i := 41) rfl)) rfl
set_option maxRecDepth 20000 in
theorem hF_X11_25 : Cond.fieldLink RX11 25 "EngineCell" "program" "LEngineCell$Program;" ∈ lw_g := lw_gg (lw_in2 (List.mem_of_getElem? (i := 42) rfl)) rfl
set_option maxRecDepth 20000 in
theorem hF_X11_34 : Cond.fieldLink RX11 34 "EngineCell" "channels" "LEngineCell$Channels;" ∈ lw_g := lw_gg (lw_in2 (List.mem_of_getElem? (i := 43) rfl)) rfl
set_option maxRecDepth 20000 in
theorem hF_X11_41 : Cond.fieldLink RX11 41 "EngineCell" "marks" "LEngineCell$Marks;" ∈ lw_g := lw_gg (lw_in2 (List.mem_of_getElem? (i := 44) rfl)) rfl
set_option maxRecDepth 20000 in
theorem hF_X11_50 : Cond.fieldLink RX11 50 "EngineCell" "room" "LEngineCell$Room;" ∈ lw_g := lw_gg (lw_in2 (List.mem_of_getElem? (i := 45) rfl)) rfl
set_option maxRecDepth 20000 in
theorem hF_X11_59 : Cond.fieldLink RX11 59 "EngineCell" "reports" "LEngineCell$Reports;" ∈ lw_g := lw_gg (lw_in2 (List.mem_of_getElem? (i := 46) rfl)) rfl
set_option maxRecDepth 20000 in
theorem hF_X11_68 : Cond.fieldLink RX11 68 "EngineCell" "rule" "LEngineCell$Law;" ∈ lw_g := lw_gg (lw_in2 (List.mem_of_getElem? (i := 47) rfl)) rfl
set_option maxRecDepth 20000 in
theorem hF_X11_75 : Cond.fieldLink RX11 75 "EngineCell" "bodies" "LEngineCell$Bodies;" ∈ lw_g := lw_gg (lw_in2 (List.mem_of_getElem? (i := 48) rfl)) rfl
set_option maxRecDepth 20000 in
theorem hF_X11_81 : Cond.fieldLink RX11 81 "EngineCell" "sheets" "[LEngineCell$Sheet;" ∈ lw_g := lw_gg (lw_in2 (List.mem_of_getElem? (i := 49) rfl)) rfl
set_option maxRecDepth 20000 in
theorem hF_X11_11 : Cond.fieldLink RX11 11 "EngineCell" "fault" "I" ∈ lw_g := lw_gg (lw_in2 (List.mem_of_getElem? (i := 50) rfl)) rfl
set_option maxRecDepth 20000 in
theorem hM_L_13 : Cond.methodLink RL 13 yX11_map ∈ lw_g := lw_gg (lw_in2 (List.mem_of_getElem? (i := 72) rfl)) rfl
set_option maxRecDepth 20000 in
theorem hI_X11_map : Cond.instanceMethod yX11_map ∈ lw_g := lw_gg (lw_in2 (List.mem_of_getElem? (i := 73) rfl)) rfl
set_option maxRecDepth 20000 in
theorem hS_X11_map : Cond.selects RX11 yX11_map yX11_map ∈ lw_g := lw_gg (lw_in2 (List.mem_of_getElem? (i := 74) rfl)) rfl
set_option maxRecDepth 20000 in
theorem hC_X11_map : Cond.code yX11_map cX11_map 4 (some .int) ∈ lw_g := lw_gg (lw_in2 (List.mem_of_getElem? (i := 75) rfl)) rfl
set_option maxRecDepth 20000 in
theorem hM_X11_86 : Cond.methodLink RX11 86 yX11_within ∈ lw_g := lw_gg (lw_in2 (List.mem_of_getElem? (i := 76) rfl)) rfl
set_option maxRecDepth 20000 in
theorem hT_X11_within : Cond.static yX11_within ∈ lw_g := lw_gg (lw_in2 (List.mem_of_getElem? (i := 77) rfl)) rfl
set_option maxRecDepth 20000 in
theorem hC_X11_within : Cond.code yX11_within cX11_within 3 (some .boolean) ∈ lw_g := lw_gg (lw_in2 (List.mem_of_getElem? (i := 78) rfl)) rfl
set_option maxRecDepth 20000 in
theorem hM_X11_90 : Cond.methodLink RX11 90 yX8_isOff ∈ lw_g := lw_gg (lw_in2 (List.mem_of_getElem? (i := 79) rfl)) rfl
set_option maxRecDepth 20000 in
theorem hI_X8_isOff : Cond.instanceMethod yX8_isOff ∈ lw_g := lw_gg (lw_in2 (List.mem_of_getElem? (i := 80) rfl)) rfl
set_option maxRecDepth 20000 in
theorem hS_X8_isOff : Cond.selects RX8 yX8_isOff yX8_isOff ∈ lw_g := lw_gg (lw_in2 (List.mem_of_getElem? (i := 81) rfl)) rfl
set_option maxRecDepth 20000 in
theorem hC_X8_isOff : Cond.code yX8_isOff cX8_isOff 1 (some .boolean) ∈ lw_g := lw_gg (lw_in2 (List.mem_of_getElem? (i := 82) rfl)) rfl
set_option maxRecDepth 20000 in
theorem hM_X11_94 : Cond.methodLink RX11 94 yX3_mapped ∈ lw_g := lw_gg (lw_in2 (List.mem_of_getElem? (i := 83) rfl)) rfl
set_option maxRecDepth 20000 in
theorem hI_X3_mapped : Cond.instanceMethod yX3_mapped ∈ lw_g := lw_gg (lw_in2 (List.mem_of_getElem? (i := 84) rfl)) rfl
set_option maxRecDepth 20000 in
theorem hS_X3_mapped : Cond.selects RX3 yX3_mapped yX3_mapped ∈ lw_g := lw_gg (lw_in2 (List.mem_of_getElem? (i := 85) rfl)) rfl
set_option maxRecDepth 20000 in
theorem hC_X3_mapped : Cond.code yX3_mapped cX3_mapped 2 (some .int) ∈ lw_g := lw_gg (lw_in2 (List.mem_of_getElem? (i := 86) rfl)) rfl
set_option maxRecDepth 20000 in
theorem hN_X3_25 : Cond.methodLinkNest RX3 25 yX11_within "EngineCell" ∈ lw_tbl := lw_in2 (List.mem_of_getElem? (i := 87) rfl)
set_option maxRecDepth 20000 in
theorem hM_X11_98 : Cond.methodLink RX11 98 yX3_remap ∈ lw_g := lw_gg (lw_in2 (List.mem_of_getElem? (i := 88) rfl)) rfl
set_option maxRecDepth 20000 in
theorem hI_X3_remap : Cond.instanceMethod yX3_remap ∈ lw_g := lw_gg (lw_in2 (List.mem_of_getElem? (i := 89) rfl)) rfl
set_option maxRecDepth 20000 in
theorem hS_X3_remap : Cond.selects RX3 yX3_remap yX3_remap ∈ lw_g := lw_gg (lw_in2 (List.mem_of_getElem? (i := 90) rfl)) rfl
set_option maxRecDepth 20000 in
theorem hC_X3_remap : Cond.code yX3_remap cX3_remap 3 none ∈ lw_g := lw_gg (lw_in2 (List.mem_of_getElem? (i := 91) rfl)) rfl
set_option maxRecDepth 20000 in
theorem hM_L_18 : Cond.methodLink RL 18 yX11_torque ∈ lw_g := lw_gg (lw_in2 (List.mem_of_getElem? (i := 92) rfl)) rfl
set_option maxRecDepth 20000 in
theorem hI_X11_torque : Cond.instanceMethod yX11_torque ∈ lw_g := lw_gg (lw_in2 (List.mem_of_getElem? (i := 93) rfl)) rfl
set_option maxRecDepth 20000 in
theorem hS_X11_torque : Cond.selects RX11 yX11_torque yX11_torque ∈ lw_g := lw_gg (lw_in2 (List.mem_of_getElem? (i := 94) rfl)) rfl
set_option maxRecDepth 20000 in
theorem hC_X11_torque : Cond.code yX11_torque cX11_torque 3 (some .long) ∈ lw_g := lw_gg (lw_in2 (List.mem_of_getElem? (i := 95) rfl)) rfl
set_option maxRecDepth 20000 in
theorem hK_X11_102 : Cond.constantLong RX11 102 (-9223372036854775808) ∈ lw_g := lw_gg (lw_in2 (List.mem_of_getElem? (i := 96) rfl)) rfl
set_option maxRecDepth 20000 in
theorem hM_X11_104 : Cond.methodLink RX11 104 yX3_torqueAt ∈ lw_g := lw_gg (lw_in2 (List.mem_of_getElem? (i := 97) rfl)) rfl
set_option maxRecDepth 20000 in
theorem hI_X3_torqueAt : Cond.instanceMethod yX3_torqueAt ∈ lw_g := lw_gg (lw_in2 (List.mem_of_getElem? (i := 98) rfl)) rfl
set_option maxRecDepth 20000 in
theorem hS_X3_torqueAt : Cond.selects RX3 yX3_torqueAt yX3_torqueAt ∈ lw_g := lw_gg (lw_in2 (List.mem_of_getElem? (i := 99) rfl)) rfl
set_option maxRecDepth 20000 in
theorem hC_X3_torqueAt : Cond.code yX3_torqueAt cX3_torqueAt 12 (some .int) ∈ lw_g := lw_gg (lw_in2 (List.mem_of_getElem? (i := 100) rfl)) rfl
set_option maxRecDepth 20000 in
theorem hM_X3_29 : Cond.methodLink RX3 29 yJ9_min_7cf53 ∈ lw_g := lw_gg (lw_in2 (List.mem_of_getElem? (i := 101) rfl)) rfl
set_option maxRecDepth 20000 in
theorem hT_J9_min_7cf53 : Cond.static yJ9_min_7cf53 ∈ lw_g := lw_gg (lw_in2 (List.mem_of_getElem? (i := 102) rfl)) rfl
set_option maxRecDepth 20000 in
theorem hC_J9_min_7cf53 : Cond.code yJ9_min_7cf53 cJ9_min_7cf53 2 (some .int) ∈ lw_g := lw_gg (lw_in2 (List.mem_of_getElem? (i := 103) rfl)) rfl
set_option maxRecDepth 20000 in
theorem hM_X3_35 : Cond.methodLink RX3 35 yX3_mapped ∈ lw_g := lw_gg (lw_in2 (List.mem_of_getElem? (i := 104) rfl)) rfl
set_option maxRecDepth 20000 in
theorem hK_X3_39 : Cond.constantLong RX3 39 (2000) ∈ lw_g := lw_gg (lw_in2 (List.mem_of_getElem? (i := 105) rfl)) rfl
set_option maxRecDepth 20000 in
theorem hK_X3_41 : Cond.constantLong RX3 41 (250) ∈ lw_g := lw_gg (lw_in2 (List.mem_of_getElem? (i := 106) rfl)) rfl
set_option maxRecDepth 20000 in
theorem hK_X3_43 : Cond.constantLong RX3 43 (500000) ∈ lw_g := lw_gg (lw_in2 (List.mem_of_getElem? (i := 107) rfl)) rfl
set_option maxRecDepth 20000 in
theorem hM_L_23 : Cond.methodLink RL 23 yX11_lag ∈ lw_g := lw_gg (lw_in2 (List.mem_of_getElem? (i := 108) rfl)) rfl
set_option maxRecDepth 20000 in
theorem hI_X11_lag : Cond.instanceMethod yX11_lag ∈ lw_g := lw_gg (lw_in2 (List.mem_of_getElem? (i := 109) rfl)) rfl
set_option maxRecDepth 20000 in
theorem hS_X11_lag : Cond.selects RX11 yX11_lag yX11_lag ∈ lw_g := lw_gg (lw_in2 (List.mem_of_getElem? (i := 110) rfl)) rfl
set_option maxRecDepth 20000 in
theorem hC_X11_lag : Cond.code yX11_lag cX11_lag 3 (some .int) ∈ lw_g := lw_gg (lw_in2 (List.mem_of_getElem? (i := 111) rfl)) rfl
set_option maxRecDepth 20000 in
theorem hM_L_28 : Cond.methodLink RL 28 yX11_step ∈ lw_g := lw_gg (lw_in2 (List.mem_of_getElem? (i := 112) rfl)) rfl
set_option maxRecDepth 20000 in
theorem hI_X11_step : Cond.instanceMethod yX11_step ∈ lw_g := lw_gg (lw_in2 (List.mem_of_getElem? (i := 113) rfl)) rfl
set_option maxRecDepth 20000 in
theorem hS_X11_step : Cond.selects RX11 yX11_step yX11_step ∈ lw_g := lw_gg (lw_in2 (List.mem_of_getElem? (i := 114) rfl)) rfl
set_option maxRecDepth 20000 in
theorem hC_X11_step : Cond.code yX11_step cX11_step 5 (some .int) ∈ lw_g := lw_gg (lw_in2 (List.mem_of_getElem? (i := 115) rfl)) rfl
set_option maxRecDepth 20000 in
theorem hM_X11_114 : Cond.methodLink RX11 114 yX6_fits ∈ lw_g := lw_gg (lw_in2 (List.mem_of_getElem? (i := 116) rfl)) rfl
set_option maxRecDepth 20000 in
theorem hT_X6_fits : Cond.static yX6_fits ∈ lw_g := lw_gg (lw_in2 (List.mem_of_getElem? (i := 117) rfl)) rfl
set_option maxRecDepth 20000 in
theorem hC_X6_fits : Cond.code yX6_fits cX6_fits 5 (some .boolean) ∈ lw_g := lw_gg (lw_in2 (List.mem_of_getElem? (i := 118) rfl)) rfl
set_option maxRecDepth 20000 in
theorem hN_X6_19 : Cond.methodLinkNest RX6 19 yX11_within "EngineCell" ∈ lw_tbl := lw_in2 (List.mem_of_getElem? (i := 119) rfl)
set_option maxRecDepth 20000 in
theorem hM_X11_118 : Cond.methodLink RX11 118 yX6_add ∈ lw_g := lw_gg (lw_in2 (List.mem_of_getElem? (i := 120) rfl)) rfl
set_option maxRecDepth 20000 in
theorem hI_X6_add : Cond.instanceMethod yX6_add ∈ lw_g := lw_gg (lw_in2 (List.mem_of_getElem? (i := 121) rfl)) rfl
set_option maxRecDepth 20000 in
theorem hS_X6_add : Cond.selects RX6 yX6_add yX6_add ∈ lw_g := lw_gg (lw_in2 (List.mem_of_getElem? (i := 122) rfl)) rfl
set_option maxRecDepth 20000 in
theorem hC_X6_add : Cond.code yX6_add cX6_add 6 none ∈ lw_g := lw_gg (lw_in2 (List.mem_of_getElem? (i := 123) rfl)) rfl
set_option maxRecDepth 20000 in
theorem hM_L_33 : Cond.methodLink RL 33 yX11_load ∈ lw_g := lw_gg (lw_in2 (List.mem_of_getElem? (i := 124) rfl)) rfl
set_option maxRecDepth 20000 in
theorem hI_X11_load : Cond.instanceMethod yX11_load ∈ lw_g := lw_gg (lw_in2 (List.mem_of_getElem? (i := 125) rfl)) rfl
set_option maxRecDepth 20000 in
theorem hS_X11_load : Cond.selects RX11 yX11_load yX11_load ∈ lw_g := lw_gg (lw_in2 (List.mem_of_getElem? (i := 126) rfl)) rfl
set_option maxRecDepth 20000 in
theorem hC_X11_load : Cond.code yX11_load cX11_load 7 (some .int) ∈ lw_g := lw_gg (lw_in2 (List.mem_of_getElem? (i := 127) rfl)) rfl
set_option maxRecDepth 20000 in
theorem hM_X11_122 : Cond.methodLink RX11 122 yX11_findSheet ∈ lw_g := lw_gg (lw_in2 (List.mem_of_getElem? (i := 128) rfl)) rfl
set_option maxRecDepth 20000 in
theorem hI_X11_findSheet : Cond.instanceMethod yX11_findSheet ∈ lw_g := lw_gg (lw_in2 (List.mem_of_getElem? (i := 130) rfl)) rfl
set_option maxRecDepth 20000 in
theorem hC_X11_findSheet : Cond.code yX11_findSheet cX11_findSheet 2 (some (.object "EngineCell$Sheet")) ∈ lw_g := lw_gg (lw_in2 (List.mem_of_getElem? (i := 131) rfl)) rfl
set_option maxRecDepth 20000 in
theorem hM_X11_126 : Cond.methodLink RX11 126 yX9_faultAs ∈ lw_g := lw_gg (lw_in2 (List.mem_of_getElem? (i := 132) rfl)) rfl
set_option maxRecDepth 20000 in
theorem hI_X9_faultAs : Cond.instanceMethod yX9_faultAs ∈ lw_g := lw_gg (lw_in2 (List.mem_of_getElem? (i := 133) rfl)) rfl
set_option maxRecDepth 20000 in
theorem hS_X9_faultAs : Cond.selects RX9 yX9_faultAs yX9_faultAs ∈ lw_g := lw_gg (lw_in2 (List.mem_of_getElem? (i := 134) rfl)) rfl
set_option maxRecDepth 20000 in
theorem hC_X9_faultAs : Cond.code yX9_faultAs cX9_faultAs 2 (some .int) ∈ lw_g := lw_gg (lw_in2 (List.mem_of_getElem? (i := 135) rfl)) rfl
set_option maxRecDepth 20000 in
theorem hK_X11_129 : Cond.constantLong RX11 129 (4) ∈ lw_g := lw_gg (lw_in2 (List.mem_of_getElem? (i := 136) rfl)) rfl
set_option maxRecDepth 20000 in
theorem hM_X11_131 : Cond.methodLink RX11 131 yX9_faultFrom ∈ lw_g := lw_gg (lw_in2 (List.mem_of_getElem? (i := 137) rfl)) rfl
set_option maxRecDepth 20000 in
theorem hI_X9_faultFrom : Cond.instanceMethod yX9_faultFrom ∈ lw_g := lw_gg (lw_in2 (List.mem_of_getElem? (i := 138) rfl)) rfl
set_option maxRecDepth 20000 in
theorem hS_X9_faultFrom : Cond.selects RX9 yX9_faultFrom yX9_faultFrom ∈ lw_g := lw_gg (lw_in2 (List.mem_of_getElem? (i := 139) rfl)) rfl
set_option maxRecDepth 20000 in
theorem hC_X9_faultFrom : Cond.code yX9_faultFrom cX9_faultFrom 4 (some .int) ∈ lw_g := lw_gg (lw_in2 (List.mem_of_getElem? (i := 140) rfl)) rfl
set_option maxRecDepth 20000 in
theorem hM_X11_135 : Cond.methodLink RX11 135 yX11_faulted ∈ lw_g := lw_gg (lw_in2 (List.mem_of_getElem? (i := 141) rfl)) rfl
set_option maxRecDepth 20000 in
theorem hI_X11_faulted : Cond.instanceMethod yX11_faulted ∈ lw_g := lw_gg (lw_in2 (List.mem_of_getElem? (i := 143) rfl)) rfl
set_option maxRecDepth 20000 in
theorem hC_X11_faulted : Cond.code yX11_faulted cX11_faulted 2 (some .int) ∈ lw_g := lw_gg (lw_in2 (List.mem_of_getElem? (i := 144) rfl)) rfl
set_option maxRecDepth 20000 in
theorem hM_X11_138 : Cond.methodLink RX11 138 yX6_fitAll ∈ lw_g := lw_gg (lw_in2 (List.mem_of_getElem? (i := 145) rfl)) rfl
set_option maxRecDepth 20000 in
theorem hI_X6_fitAll : Cond.instanceMethod yX6_fitAll ∈ lw_g := lw_gg (lw_in2 (List.mem_of_getElem? (i := 146) rfl)) rfl
set_option maxRecDepth 20000 in
theorem hS_X6_fitAll : Cond.selects RX6 yX6_fitAll yX6_fitAll ∈ lw_g := lw_gg (lw_in2 (List.mem_of_getElem? (i := 147) rfl)) rfl
set_option maxRecDepth 20000 in
theorem hC_X6_fitAll : Cond.code yX6_fitAll cX6_fitAll 6 (some .boolean) ∈ lw_g := lw_gg (lw_in2 (List.mem_of_getElem? (i := 148) rfl)) rfl
set_option maxRecDepth 20000 in
theorem hM_X6_23 : Cond.methodLink RX6 23 yX9_cell ∈ lw_g := lw_gg (lw_in2 (List.mem_of_getElem? (i := 149) rfl)) rfl
set_option maxRecDepth 20000 in
theorem hI_X9_cell : Cond.instanceMethod yX9_cell ∈ lw_g := lw_gg (lw_in2 (List.mem_of_getElem? (i := 150) rfl)) rfl
set_option maxRecDepth 20000 in
theorem hS_X9_cell : Cond.selects RX9 yX9_cell yX9_cell ∈ lw_g := lw_gg (lw_in2 (List.mem_of_getElem? (i := 151) rfl)) rfl
set_option maxRecDepth 20000 in
theorem hC_X9_cell : Cond.code yX9_cell cX9_cell 2 (some .int) ∈ lw_g := lw_gg (lw_in2 (List.mem_of_getElem? (i := 152) rfl)) rfl
set_option maxRecDepth 20000 in
theorem hN_X9_26 : Cond.methodLinkNest RX9 26 yX11_within "EngineCell" ∈ lw_tbl := lw_in2 (List.mem_of_getElem? (i := 153) rfl)
set_option maxRecDepth 20000 in
theorem hM_X6_29 : Cond.methodLink RX6 29 yX6_fits ∈ lw_g := lw_gg (lw_in2 (List.mem_of_getElem? (i := 154) rfl)) rfl
set_option maxRecDepth 20000 in
theorem hM_X11_142 : Cond.methodLink RX11 142 yX6_addAll ∈ lw_g := lw_gg (lw_in2 (List.mem_of_getElem? (i := 155) rfl)) rfl
set_option maxRecDepth 20000 in
theorem hI_X6_addAll : Cond.instanceMethod yX6_addAll ∈ lw_g := lw_gg (lw_in2 (List.mem_of_getElem? (i := 156) rfl)) rfl
set_option maxRecDepth 20000 in
theorem hS_X6_addAll : Cond.selects RX6 yX6_addAll yX6_addAll ∈ lw_g := lw_gg (lw_in2 (List.mem_of_getElem? (i := 157) rfl)) rfl
set_option maxRecDepth 20000 in
theorem hC_X6_addAll : Cond.code yX6_addAll cX6_addAll 6 none ∈ lw_g := lw_gg (lw_in2 (List.mem_of_getElem? (i := 158) rfl)) rfl
set_option maxRecDepth 20000 in
theorem hM_X6_33 : Cond.methodLink RX6 33 yX6_add ∈ lw_g := lw_gg (lw_in2 (List.mem_of_getElem? (i := 159) rfl)) rfl
set_option maxRecDepth 20000 in
theorem hM_L_37 : Cond.methodLink RL 37 yX11_clear ∈ lw_g := lw_gg (lw_in2 (List.mem_of_getElem? (i := 160) rfl)) rfl
set_option maxRecDepth 20000 in
theorem hI_X11_clear : Cond.instanceMethod yX11_clear ∈ lw_g := lw_gg (lw_in2 (List.mem_of_getElem? (i := 161) rfl)) rfl
set_option maxRecDepth 20000 in
theorem hS_X11_clear : Cond.selects RX11 yX11_clear yX11_clear ∈ lw_g := lw_gg (lw_in2 (List.mem_of_getElem? (i := 162) rfl)) rfl
set_option maxRecDepth 20000 in
theorem hC_X11_clear : Cond.code yX11_clear cX11_clear 2 (some .int) ∈ lw_g := lw_gg (lw_in2 (List.mem_of_getElem? (i := 163) rfl)) rfl
set_option maxRecDepth 20000 in
theorem hM_L_42 : Cond.methodLink RL 42 yX11_stepped ∈ lw_g := lw_gg (lw_in2 (List.mem_of_getElem? (i := 164) rfl)) rfl
set_option maxRecDepth 20000 in
theorem hI_X11_stepped : Cond.instanceMethod yX11_stepped ∈ lw_g := lw_gg (lw_in2 (List.mem_of_getElem? (i := 165) rfl)) rfl
set_option maxRecDepth 20000 in
theorem hS_X11_stepped : Cond.selects RX11 yX11_stepped yX11_stepped ∈ lw_g := lw_gg (lw_in2 (List.mem_of_getElem? (i := 166) rfl)) rfl
set_option maxRecDepth 20000 in
theorem hC_X11_stepped : Cond.code yX11_stepped cX11_stepped 3 (some .int) ∈ lw_g := lw_gg (lw_in2 (List.mem_of_getElem? (i := 167) rfl)) rfl
set_option maxRecDepth 20000 in
theorem hM_X11_146 : Cond.methodLink RX11 146 yX6_has ∈ lw_g := lw_gg (lw_in2 (List.mem_of_getElem? (i := 168) rfl)) rfl
set_option maxRecDepth 20000 in
theorem hI_X6_has : Cond.instanceMethod yX6_has ∈ lw_g := lw_gg (lw_in2 (List.mem_of_getElem? (i := 169) rfl)) rfl
set_option maxRecDepth 20000 in
theorem hS_X6_has : Cond.selects RX6 yX6_has yX6_has ∈ lw_g := lw_gg (lw_in2 (List.mem_of_getElem? (i := 170) rfl)) rfl
set_option maxRecDepth 20000 in
theorem hC_X6_has : Cond.code yX6_has cX6_has 2 (some .boolean) ∈ lw_g := lw_gg (lw_in2 (List.mem_of_getElem? (i := 171) rfl)) rfl
set_option maxRecDepth 20000 in
theorem hM_X11_150 : Cond.methodLink RX11 150 yX6_cell ∈ lw_g := lw_gg (lw_in2 (List.mem_of_getElem? (i := 172) rfl)) rfl
set_option maxRecDepth 20000 in
theorem hI_X6_cell : Cond.instanceMethod yX6_cell ∈ lw_g := lw_gg (lw_in2 (List.mem_of_getElem? (i := 173) rfl)) rfl
set_option maxRecDepth 20000 in
theorem hS_X6_cell : Cond.selects RX6 yX6_cell yX6_cell ∈ lw_g := lw_gg (lw_in2 (List.mem_of_getElem? (i := 174) rfl)) rfl
set_option maxRecDepth 20000 in
theorem hC_X6_cell : Cond.code yX6_cell cX6_cell 3 (some .int) ∈ lw_g := lw_gg (lw_in2 (List.mem_of_getElem? (i := 175) rfl)) rfl
set_option maxRecDepth 20000 in
theorem hM_L_46 : Cond.methodLink RL 46 yX11_start ∈ lw_g := lw_gg (lw_in2 (List.mem_of_getElem? (i := 176) rfl)) rfl
set_option maxRecDepth 20000 in
theorem hI_X11_start : Cond.instanceMethod yX11_start ∈ lw_g := lw_gg (lw_in2 (List.mem_of_getElem? (i := 177) rfl)) rfl
set_option maxRecDepth 20000 in
theorem hS_X11_start : Cond.selects RX11 yX11_start yX11_start ∈ lw_g := lw_gg (lw_in2 (List.mem_of_getElem? (i := 178) rfl)) rfl
set_option maxRecDepth 20000 in
theorem hC_X11_start : Cond.code yX11_start cX11_start 1 (some .int) ∈ lw_g := lw_gg (lw_in2 (List.mem_of_getElem? (i := 179) rfl)) rfl
set_option maxRecDepth 20000 in
theorem hM_X11_153 : Cond.methodLink RX11 153 yX8_begin ∈ lw_g := lw_gg (lw_in2 (List.mem_of_getElem? (i := 180) rfl)) rfl
set_option maxRecDepth 20000 in
theorem hI_X8_begin : Cond.instanceMethod yX8_begin ∈ lw_g := lw_gg (lw_in2 (List.mem_of_getElem? (i := 181) rfl)) rfl
set_option maxRecDepth 20000 in
theorem hS_X8_begin : Cond.selects RX8 yX8_begin yX8_begin ∈ lw_g := lw_gg (lw_in2 (List.mem_of_getElem? (i := 182) rfl)) rfl
set_option maxRecDepth 20000 in
theorem hC_X8_begin : Cond.code yX8_begin cX8_begin 2 none ∈ lw_g := lw_gg (lw_in2 (List.mem_of_getElem? (i := 183) rfl)) rfl
set_option maxRecDepth 20000 in
theorem hM_X8_59 : Cond.methodLink RX8 59 yX8_comeTo ∈ lw_g := lw_gg (lw_in2 (List.mem_of_getElem? (i := 184) rfl)) rfl
set_option maxRecDepth 20000 in
theorem hI_X8_comeTo : Cond.instanceMethod yX8_comeTo ∈ lw_g := lw_gg (lw_in2 (List.mem_of_getElem? (i := 186) rfl)) rfl
set_option maxRecDepth 20000 in
theorem hC_X8_comeTo : Cond.code yX8_comeTo cX8_comeTo 2 none ∈ lw_g := lw_gg (lw_in2 (List.mem_of_getElem? (i := 187) rfl)) rfl
set_option maxRecDepth 20000 in
theorem hM_L_50 : Cond.methodLink RL 50 yX11_tick ∈ lw_g := lw_gg (lw_in2 (List.mem_of_getElem? (i := 188) rfl)) rfl
set_option maxRecDepth 20000 in
theorem hI_X11_tick : Cond.instanceMethod yX11_tick ∈ lw_g := lw_gg (lw_in2 (List.mem_of_getElem? (i := 189) rfl)) rfl
set_option maxRecDepth 20000 in
theorem hS_X11_tick : Cond.selects RX11 yX11_tick yX11_tick ∈ lw_g := lw_gg (lw_in2 (List.mem_of_getElem? (i := 190) rfl)) rfl
set_option maxRecDepth 20000 in
theorem hC_X11_tick : Cond.code yX11_tick cX11_tick 3 (some .int) ∈ lw_g := lw_gg (lw_in2 (List.mem_of_getElem? (i := 191) rfl)) rfl
set_option maxRecDepth 20000 in
theorem hM_X11_156 : Cond.methodLink RX11 156 yX8_isGoing ∈ lw_g := lw_gg (lw_in2 (List.mem_of_getElem? (i := 192) rfl)) rfl
set_option maxRecDepth 20000 in
theorem hI_X8_isGoing : Cond.instanceMethod yX8_isGoing ∈ lw_g := lw_gg (lw_in2 (List.mem_of_getElem? (i := 193) rfl)) rfl
set_option maxRecDepth 20000 in
theorem hS_X8_isGoing : Cond.selects RX8 yX8_isGoing yX8_isGoing ∈ lw_g := lw_gg (lw_in2 (List.mem_of_getElem? (i := 194) rfl)) rfl
set_option maxRecDepth 20000 in
theorem hC_X8_isGoing : Cond.code yX8_isGoing cX8_isGoing 1 (some .boolean) ∈ lw_g := lw_gg (lw_in2 (List.mem_of_getElem? (i := 195) rfl)) rfl
set_option maxRecDepth 20000 in
theorem hM_X11_162 : Cond.methodLink RX11 162 yX8_oneTick ∈ lw_g := lw_gg (lw_in2 (List.mem_of_getElem? (i := 196) rfl)) rfl
set_option maxRecDepth 20000 in
theorem hI_X8_oneTick : Cond.instanceMethod yX8_oneTick ∈ lw_g := lw_gg (lw_in2 (List.mem_of_getElem? (i := 197) rfl)) rfl
set_option maxRecDepth 20000 in
theorem hS_X8_oneTick : Cond.selects RX8 yX8_oneTick yX8_oneTick ∈ lw_g := lw_gg (lw_in2 (List.mem_of_getElem? (i := 198) rfl)) rfl
set_option maxRecDepth 20000 in
theorem hC_X8_oneTick : Cond.code yX8_oneTick cX8_oneTick 1 none ∈ lw_g := lw_gg (lw_in2 (List.mem_of_getElem? (i := 199) rfl)) rfl
set_option maxRecDepth 20000 in
theorem hM_X8_63 : Cond.methodLink RX8 63 yX3_latest ∈ lw_g := lw_gg (lw_in2 (List.mem_of_getElem? (i := 200) rfl)) rfl
set_option maxRecDepth 20000 in
theorem hI_X3_latest : Cond.instanceMethod yX3_latest ∈ lw_g := lw_gg (lw_in2 (List.mem_of_getElem? (i := 201) rfl)) rfl
set_option maxRecDepth 20000 in
theorem hS_X3_latest : Cond.selects RX3 yX3_latest yX3_latest ∈ lw_g := lw_gg (lw_in2 (List.mem_of_getElem? (i := 202) rfl)) rfl
set_option maxRecDepth 20000 in
theorem hC_X3_latest : Cond.code yX3_latest cX3_latest 2 (some .int) ∈ lw_g := lw_gg (lw_in2 (List.mem_of_getElem? (i := 203) rfl)) rfl
set_option maxRecDepth 20000 in
theorem hM_X3_45 : Cond.methodLink RX3 45 yX3_part ∈ lw_g := lw_gg (lw_in2 (List.mem_of_getElem? (i := 204) rfl)) rfl
set_option maxRecDepth 20000 in
theorem hI_X3_part : Cond.instanceMethod yX3_part ∈ lw_g := lw_gg (lw_in2 (List.mem_of_getElem? (i := 205) rfl)) rfl
set_option maxRecDepth 20000 in
theorem hS_X3_part : Cond.selects RX3 yX3_part yX3_part ∈ lw_g := lw_gg (lw_in2 (List.mem_of_getElem? (i := 206) rfl)) rfl
set_option maxRecDepth 20000 in
theorem hC_X3_part : Cond.code yX3_part cX3_part 3 (some .int) ∈ lw_g := lw_gg (lw_in2 (List.mem_of_getElem? (i := 207) rfl)) rfl
set_option maxRecDepth 20000 in
theorem hM_X8_69 : Cond.methodLink RX8 69 yX8_goOn ∈ lw_g := lw_gg (lw_in2 (List.mem_of_getElem? (i := 208) rfl)) rfl
set_option maxRecDepth 20000 in
theorem hI_X8_goOn : Cond.instanceMethod yX8_goOn ∈ lw_g := lw_gg (lw_in2 (List.mem_of_getElem? (i := 210) rfl)) rfl
set_option maxRecDepth 20000 in
theorem hC_X8_goOn : Cond.code yX8_goOn cX8_goOn 2 none ∈ lw_g := lw_gg (lw_in2 (List.mem_of_getElem? (i := 211) rfl)) rfl
set_option maxRecDepth 20000 in
theorem hM_X8_85 : Cond.methodLink RX8 85 yX8_halt ∈ lw_g := lw_gg (lw_in2 (List.mem_of_getElem? (i := 212) rfl)) rfl
set_option maxRecDepth 20000 in
theorem hI_X8_halt : Cond.instanceMethod yX8_halt ∈ lw_g := lw_gg (lw_in2 (List.mem_of_getElem? (i := 213) rfl)) rfl
set_option maxRecDepth 20000 in
theorem hS_X8_halt : Cond.selects RX8 yX8_halt yX8_halt ∈ lw_g := lw_gg (lw_in2 (List.mem_of_getElem? (i := 214) rfl)) rfl
set_option maxRecDepth 20000 in
theorem hC_X8_halt : Cond.code yX8_halt cX8_halt 2 none ∈ lw_g := lw_gg (lw_in2 (List.mem_of_getElem? (i := 215) rfl)) rfl
set_option maxRecDepth 20000 in
theorem hM_X8_93 : Cond.methodLink RX8 93 yX6_cell ∈ lw_g := lw_gg (lw_in2 (List.mem_of_getElem? (i := 216) rfl)) rfl
set_option maxRecDepth 20000 in
theorem hM_X8_97 : Cond.methodLink RX8 97 yX8_spend ∈ lw_g := lw_gg (lw_in2 (List.mem_of_getElem? (i := 217) rfl)) rfl
set_option maxRecDepth 20000 in
theorem hI_X8_spend : Cond.instanceMethod yX8_spend ∈ lw_g := lw_gg (lw_in2 (List.mem_of_getElem? (i := 219) rfl)) rfl
set_option maxRecDepth 20000 in
theorem hC_X8_spend : Cond.code yX8_spend cX8_spend 1 none ∈ lw_g := lw_gg (lw_in2 (List.mem_of_getElem? (i := 220) rfl)) rfl
set_option maxRecDepth 20000 in
theorem hM_X8_100 : Cond.methodLink RX8 100 yX8_ramp ∈ lw_g := lw_gg (lw_in2 (List.mem_of_getElem? (i := 221) rfl)) rfl
set_option maxRecDepth 20000 in
theorem hI_X8_ramp : Cond.instanceMethod yX8_ramp ∈ lw_g := lw_gg (lw_in2 (List.mem_of_getElem? (i := 223) rfl)) rfl
set_option maxRecDepth 20000 in
theorem hC_X8_ramp : Cond.code yX8_ramp cX8_ramp 3 none ∈ lw_g := lw_gg (lw_in2 (List.mem_of_getElem? (i := 224) rfl)) rfl
set_option maxRecDepth 20000 in
theorem hM_X8_103 : Cond.methodLink RX8 103 yX8_isWaitOver ∈ lw_g := lw_gg (lw_in2 (List.mem_of_getElem? (i := 225) rfl)) rfl
set_option maxRecDepth 20000 in
theorem hI_X8_isWaitOver : Cond.instanceMethod yX8_isWaitOver ∈ lw_g := lw_gg (lw_in2 (List.mem_of_getElem? (i := 227) rfl)) rfl
set_option maxRecDepth 20000 in
theorem hC_X8_isWaitOver : Cond.code yX8_isWaitOver cX8_isWaitOver 4 (some .boolean) ∈ lw_g := lw_gg (lw_in2 (List.mem_of_getElem? (i := 228) rfl)) rfl
set_option maxRecDepth 20000 in
theorem hM_X8_115 : Cond.methodLink RX8 115 yX2_find ∈ lw_g := lw_gg (lw_in2 (List.mem_of_getElem? (i := 229) rfl)) rfl
set_option maxRecDepth 20000 in
theorem hI_X2_find : Cond.instanceMethod yX2_find ∈ lw_g := lw_gg (lw_in2 (List.mem_of_getElem? (i := 230) rfl)) rfl
set_option maxRecDepth 20000 in
theorem hS_X2_find : Cond.selects RX2 yX2_find yX2_find ∈ lw_g := lw_gg (lw_in2 (List.mem_of_getElem? (i := 231) rfl)) rfl
set_option maxRecDepth 20000 in
theorem hC_X2_find : Cond.code yX2_find cX2_find 2 (some (.object "EngineCell$Channel")) ∈ lw_g := lw_gg (lw_in2 (List.mem_of_getElem? (i := 232) rfl)) rfl
set_option maxRecDepth 20000 in
theorem hM_X2_39 : Cond.methodLink RX2 39 yJ9_min_7cf53 ∈ lw_g := lw_gg (lw_in2 (List.mem_of_getElem? (i := 233) rfl)) rfl
set_option maxRecDepth 20000 in
theorem hN_X2_35 : Cond.methodLinkNest RX2 35 yX11_within "EngineCell" ∈ lw_tbl := lw_in2 (List.mem_of_getElem? (i := 234) rfl)
set_option maxRecDepth 20000 in
theorem hM_X8_119 : Cond.methodLink RX8 119 yX1_latestAt ∈ lw_g := lw_gg (lw_in2 (List.mem_of_getElem? (i := 235) rfl)) rfl
set_option maxRecDepth 20000 in
theorem hI_X1_latestAt : Cond.instanceMethod yX1_latestAt ∈ lw_g := lw_gg (lw_in2 (List.mem_of_getElem? (i := 236) rfl)) rfl
set_option maxRecDepth 20000 in
theorem hS_X1_latestAt : Cond.selects RX1 yX1_latestAt yX1_latestAt ∈ lw_g := lw_gg (lw_in2 (List.mem_of_getElem? (i := 237) rfl)) rfl
set_option maxRecDepth 20000 in
theorem hC_X1_latestAt : Cond.code yX1_latestAt cX1_latestAt 2 (some .int) ∈ lw_g := lw_gg (lw_in2 (List.mem_of_getElem? (i := 238) rfl)) rfl
set_option maxRecDepth 20000 in
theorem hM_X8_124 : Cond.methodLink RX8 124 yX2_value ∈ lw_g := lw_gg (lw_in2 (List.mem_of_getElem? (i := 239) rfl)) rfl
set_option maxRecDepth 20000 in
theorem hI_X2_value : Cond.instanceMethod yX2_value ∈ lw_g := lw_gg (lw_in3 (List.mem_of_getElem? (i := 0) rfl)) rfl
set_option maxRecDepth 20000 in
theorem hS_X2_value : Cond.selects RX2 yX2_value yX2_value ∈ lw_g := lw_gg (lw_in3 (List.mem_of_getElem? (i := 1) rfl)) rfl
set_option maxRecDepth 20000 in
theorem hC_X2_value : Cond.code yX2_value cX2_value 5 (some .long) ∈ lw_g := lw_gg (lw_in3 (List.mem_of_getElem? (i := 2) rfl)) rfl
set_option maxRecDepth 20000 in
theorem hM_X2_69 : Cond.methodLink RX2 69 yX2_isLost ∈ lw_g := lw_gg (lw_in3 (List.mem_of_getElem? (i := 3) rfl)) rfl
set_option maxRecDepth 20000 in
theorem hI_X2_isLost : Cond.instanceMethod yX2_isLost ∈ lw_g := lw_gg (lw_in3 (List.mem_of_getElem? (i := 4) rfl)) rfl
set_option maxRecDepth 20000 in
theorem hS_X2_isLost : Cond.selects RX2 yX2_isLost yX2_isLost ∈ lw_g := lw_gg (lw_in3 (List.mem_of_getElem? (i := 5) rfl)) rfl
set_option maxRecDepth 20000 in
theorem hC_X2_isLost : Cond.code yX2_isLost cX2_isLost 3 (some .boolean) ∈ lw_g := lw_gg (lw_in3 (List.mem_of_getElem? (i := 6) rfl)) rfl
set_option maxRecDepth 20000 in
theorem hM_X2_51 : Cond.methodLink RX2 51 yX10_covers ∈ lw_g := lw_gg (lw_in3 (List.mem_of_getElem? (i := 7) rfl)) rfl
set_option maxRecDepth 20000 in
theorem hI_X10_covers : Cond.instanceMethod yX10_covers ∈ lw_g := lw_gg (lw_in3 (List.mem_of_getElem? (i := 8) rfl)) rfl
set_option maxRecDepth 20000 in
theorem hS_X10_covers : Cond.selects RX10 yX10_covers yX10_covers ∈ lw_g := lw_gg (lw_in3 (List.mem_of_getElem? (i := 9) rfl)) rfl
set_option maxRecDepth 20000 in
theorem hC_X10_covers : Cond.code yX10_covers cX10_covers 4 (some .boolean) ∈ lw_g := lw_gg (lw_in3 (List.mem_of_getElem? (i := 10) rfl)) rfl
set_option maxRecDepth 20000 in
theorem hK_X2_73 : Cond.constantLong RX2 73 (-9223372036854775808) ∈ lw_g := lw_gg (lw_in3 (List.mem_of_getElem? (i := 11) rfl)) rfl
set_option maxRecDepth 20000 in
theorem hM_X2_58 : Cond.methodLink RX2 58 yX3_part ∈ lw_g := lw_gg (lw_in3 (List.mem_of_getElem? (i := 12) rfl)) rfl
set_option maxRecDepth 20000 in
theorem hM_X2_75 : Cond.methodLink RX2 75 yJ9_max_7cf53 ∈ lw_g := lw_gg (lw_in3 (List.mem_of_getElem? (i := 13) rfl)) rfl
set_option maxRecDepth 20000 in
theorem hT_J9_max_7cf53 : Cond.static yJ9_max_7cf53 ∈ lw_g := lw_gg (lw_in3 (List.mem_of_getElem? (i := 14) rfl)) rfl
set_option maxRecDepth 20000 in
theorem hC_J9_max_7cf53 : Cond.code yJ9_max_7cf53 cJ9_max_7cf53 2 (some .int) ∈ lw_g := lw_gg (lw_in3 (List.mem_of_getElem? (i := 15) rfl)) rfl
set_option maxRecDepth 20000 in
theorem hM_X2_78 : Cond.methodLink RX2 78 yX10_apply ∈ lw_g := lw_gg (lw_in3 (List.mem_of_getElem? (i := 16) rfl)) rfl
set_option maxRecDepth 20000 in
theorem hI_X10_apply : Cond.instanceMethod yX10_apply ∈ lw_g := lw_gg (lw_in3 (List.mem_of_getElem? (i := 17) rfl)) rfl
set_option maxRecDepth 20000 in
theorem hS_X10_apply : Cond.selects RX10 yX10_apply yX10_apply ∈ lw_g := lw_gg (lw_in3 (List.mem_of_getElem? (i := 18) rfl)) rfl
set_option maxRecDepth 20000 in
theorem hC_X10_apply : Cond.code yX10_apply cX10_apply 5 (some .int) ∈ lw_g := lw_gg (lw_in3 (List.mem_of_getElem? (i := 19) rfl)) rfl
set_option maxRecDepth 20000 in
theorem hM_X10_32 : Cond.methodLink RX10 32 yJ9_min_7cf53 ∈ lw_g := lw_gg (lw_in3 (List.mem_of_getElem? (i := 20) rfl)) rfl
set_option maxRecDepth 20000 in
theorem hK_X8_128 : Cond.constantLong RX8 128 (-9223372036854775808) ∈ lw_g := lw_gg (lw_in3 (List.mem_of_getElem? (i := 21) rfl)) rfl
set_option maxRecDepth 20000 in
theorem hM_X8_107 : Cond.methodLink RX8 107 yX8_loop ∈ lw_g := lw_gg (lw_in3 (List.mem_of_getElem? (i := 22) rfl)) rfl
set_option maxRecDepth 20000 in
theorem hI_X8_loop : Cond.instanceMethod yX8_loop ∈ lw_g := lw_gg (lw_in3 (List.mem_of_getElem? (i := 24) rfl)) rfl
set_option maxRecDepth 20000 in
theorem hC_X8_loop : Cond.code yX8_loop cX8_loop 1 none ∈ lw_g := lw_gg (lw_in3 (List.mem_of_getElem? (i := 25) rfl)) rfl
set_option maxRecDepth 20000 in
theorem hN_X8_130 : Cond.methodLinkNest RX8 130 yX11_within "EngineCell" ∈ lw_tbl := lw_in3 (List.mem_of_getElem? (i := 26) rfl)
set_option maxRecDepth 20000 in
theorem hM_X8_110 : Cond.methodLink RX8 110 yX5_add ∈ lw_g := lw_gg (lw_in3 (List.mem_of_getElem? (i := 27) rfl)) rfl
set_option maxRecDepth 20000 in
theorem hI_X5_add : Cond.instanceMethod yX5_add ∈ lw_g := lw_gg (lw_in3 (List.mem_of_getElem? (i := 28) rfl)) rfl
set_option maxRecDepth 20000 in
theorem hS_X5_add : Cond.selects RX5 yX5_add yX5_add ∈ lw_g := lw_gg (lw_in3 (List.mem_of_getElem? (i := 29) rfl)) rfl
set_option maxRecDepth 20000 in
theorem hC_X5_add : Cond.code yX5_add cX5_add 2 none ∈ lw_g := lw_gg (lw_in3 (List.mem_of_getElem? (i := 30) rfl)) rfl
set_option maxRecDepth 20000 in
theorem hN_X5_19 : Cond.methodLinkNest RX5 19 yX11_within "EngineCell" ∈ lw_tbl := lw_in3 (List.mem_of_getElem? (i := 31) rfl)
set_option maxRecDepth 20000 in
theorem hM_X8_72 : Cond.methodLink RX8 72 yX3_advance ∈ lw_g := lw_gg (lw_in3 (List.mem_of_getElem? (i := 32) rfl)) rfl
set_option maxRecDepth 20000 in
theorem hI_X3_advance : Cond.instanceMethod yX3_advance ∈ lw_g := lw_gg (lw_in3 (List.mem_of_getElem? (i := 33) rfl)) rfl
set_option maxRecDepth 20000 in
theorem hS_X3_advance : Cond.selects RX3 yX3_advance yX3_advance ∈ lw_g := lw_gg (lw_in3 (List.mem_of_getElem? (i := 34) rfl)) rfl
set_option maxRecDepth 20000 in
theorem hC_X3_advance : Cond.code yX3_advance cX3_advance 10 none ∈ lw_g := lw_gg (lw_in3 (List.mem_of_getElem? (i := 35) rfl)) rfl
set_option maxRecDepth 20000 in
theorem hM_X3_48 : Cond.methodLink RX3 48 yX3_latest ∈ lw_g := lw_gg (lw_in3 (List.mem_of_getElem? (i := 36) rfl)) rfl
set_option maxRecDepth 20000 in
theorem hM_X3_51 : Cond.methodLink RX3 51 yX3_change ∈ lw_g := lw_gg (lw_in3 (List.mem_of_getElem? (i := 37) rfl)) rfl
set_option maxRecDepth 20000 in
theorem hI_X3_change : Cond.instanceMethod yX3_change ∈ lw_g := lw_gg (lw_in3 (List.mem_of_getElem? (i := 39) rfl)) rfl
set_option maxRecDepth 20000 in
theorem hC_X3_change : Cond.code yX3_change cX3_change 4 (some .int) ∈ lw_g := lw_gg (lw_in3 (List.mem_of_getElem? (i := 40) rfl)) rfl
set_option maxRecDepth 20000 in
theorem hM_X3_60 : Cond.methodLink RX3 60 yJ6_compare_7cf53 ∈ lw_g := lw_gg (lw_in3 (List.mem_of_getElem? (i := 41) rfl)) rfl
set_option maxRecDepth 20000 in
theorem hT_J6_compare_7cf53 : Cond.static yJ6_compare_7cf53 ∈ lw_g := lw_gg (lw_in3 (List.mem_of_getElem? (i := 42) rfl)) rfl
set_option maxRecDepth 20000 in
theorem hC_J6_compare_7cf53 : Cond.code yJ6_compare_7cf53 cJ6_compare_7cf53 2 (some .int) ∈ lw_g := lw_gg (lw_in3 (List.mem_of_getElem? (i := 43) rfl)) rfl
set_option maxRecDepth 20000 in
theorem hM_X3_54 : Cond.methodLink RX3 54 yX3_torqueAt ∈ lw_g := lw_gg (lw_in3 (List.mem_of_getElem? (i := 44) rfl)) rfl
set_option maxRecDepth 20000 in
theorem hM_X3_57 : Cond.methodLink RX3 57 yJ9_max_7cf53 ∈ lw_g := lw_gg (lw_in3 (List.mem_of_getElem? (i := 45) rfl)) rfl
set_option maxRecDepth 20000 in
theorem hM_X8_79 : Cond.methodLink RX8 79 yX2_isOneAbove ∈ lw_g := lw_gg (lw_in3 (List.mem_of_getElem? (i := 46) rfl)) rfl
set_option maxRecDepth 20000 in
theorem hI_X2_isOneAbove : Cond.instanceMethod yX2_isOneAbove ∈ lw_g := lw_gg (lw_in3 (List.mem_of_getElem? (i := 47) rfl)) rfl
set_option maxRecDepth 20000 in
theorem hS_X2_isOneAbove : Cond.selects RX2 yX2_isOneAbove yX2_isOneAbove ∈ lw_g := lw_gg (lw_in3 (List.mem_of_getElem? (i := 48) rfl)) rfl
set_option maxRecDepth 20000 in
theorem hC_X2_isOneAbove : Cond.code yX2_isOneAbove cX2_isOneAbove 6 (some .boolean) ∈ lw_g := lw_gg (lw_in3 (List.mem_of_getElem? (i := 49) rfl)) rfl
set_option maxRecDepth 20000 in
theorem hM_X2_86 : Cond.methodLink RX2 86 yX1_readsAt ∈ lw_g := lw_gg (lw_in3 (List.mem_of_getElem? (i := 50) rfl)) rfl
set_option maxRecDepth 20000 in
theorem hI_X1_readsAt : Cond.instanceMethod yX1_readsAt ∈ lw_g := lw_gg (lw_in3 (List.mem_of_getElem? (i := 51) rfl)) rfl
set_option maxRecDepth 20000 in
theorem hS_X1_readsAt : Cond.selects RX1 yX1_readsAt yX1_readsAt ∈ lw_g := lw_gg (lw_in3 (List.mem_of_getElem? (i := 52) rfl)) rfl
set_option maxRecDepth 20000 in
theorem hC_X1_readsAt : Cond.code yX1_readsAt cX1_readsAt 2 (some .boolean) ∈ lw_g := lw_gg (lw_in3 (List.mem_of_getElem? (i := 53) rfl)) rfl
set_option maxRecDepth 20000 in
theorem hM_X2_90 : Cond.methodLink RX2 90 yX2_value ∈ lw_g := lw_gg (lw_in3 (List.mem_of_getElem? (i := 54) rfl)) rfl
set_option maxRecDepth 20000 in
theorem hM_L_54 : Cond.methodLink RL 54 yX11_stop ∈ lw_g := lw_gg (lw_in3 (List.mem_of_getElem? (i := 55) rfl)) rfl
set_option maxRecDepth 20000 in
theorem hI_X11_stop : Cond.instanceMethod yX11_stop ∈ lw_g := lw_gg (lw_in3 (List.mem_of_getElem? (i := 56) rfl)) rfl
set_option maxRecDepth 20000 in
theorem hS_X11_stop : Cond.selects RX11 yX11_stop yX11_stop ∈ lw_g := lw_gg (lw_in3 (List.mem_of_getElem? (i := 57) rfl)) rfl
set_option maxRecDepth 20000 in
theorem hC_X11_stop : Cond.code yX11_stop cX11_stop 1 (some .int) ∈ lw_g := lw_gg (lw_in3 (List.mem_of_getElem? (i := 58) rfl)) rfl
set_option maxRecDepth 20000 in
theorem hM_X11_168 : Cond.methodLink RX11 168 yX8_halt ∈ lw_g := lw_gg (lw_in3 (List.mem_of_getElem? (i := 59) rfl)) rfl
set_option maxRecDepth 20000 in
theorem hM_L_58 : Cond.methodLink RL 58 yX11_reset ∈ lw_g := lw_gg (lw_in3 (List.mem_of_getElem? (i := 60) rfl)) rfl
set_option maxRecDepth 20000 in
theorem hI_X11_reset : Cond.instanceMethod yX11_reset ∈ lw_g := lw_gg (lw_in3 (List.mem_of_getElem? (i := 61) rfl)) rfl
set_option maxRecDepth 20000 in
theorem hS_X11_reset : Cond.selects RX11 yX11_reset yX11_reset ∈ lw_g := lw_gg (lw_in3 (List.mem_of_getElem? (i := 62) rfl)) rfl
set_option maxRecDepth 20000 in
theorem hC_X11_reset : Cond.code yX11_reset cX11_reset 2 (some .int) ∈ lw_g := lw_gg (lw_in3 (List.mem_of_getElem? (i := 63) rfl)) rfl
set_option maxRecDepth 20000 in
theorem hM_X11_173 : Cond.methodLink RX11 173 yX8_rest ∈ lw_g := lw_gg (lw_in3 (List.mem_of_getElem? (i := 64) rfl)) rfl
set_option maxRecDepth 20000 in
theorem hI_X8_rest : Cond.instanceMethod yX8_rest ∈ lw_g := lw_gg (lw_in3 (List.mem_of_getElem? (i := 65) rfl)) rfl
set_option maxRecDepth 20000 in
theorem hS_X8_rest : Cond.selects RX8 yX8_rest yX8_rest ∈ lw_g := lw_gg (lw_in3 (List.mem_of_getElem? (i := 66) rfl)) rfl
set_option maxRecDepth 20000 in
theorem hC_X8_rest : Cond.code yX8_rest cX8_rest 1 none ∈ lw_g := lw_gg (lw_in3 (List.mem_of_getElem? (i := 67) rfl)) rfl
set_option maxRecDepth 20000 in
theorem hM_L_62 : Cond.methodLink RL 62 yX11_told ∈ lw_g := lw_gg (lw_in3 (List.mem_of_getElem? (i := 68) rfl)) rfl
set_option maxRecDepth 20000 in
theorem hI_X11_told : Cond.instanceMethod yX11_told ∈ lw_g := lw_gg (lw_in3 (List.mem_of_getElem? (i := 69) rfl)) rfl
set_option maxRecDepth 20000 in
theorem hS_X11_told : Cond.selects RX11 yX11_told yX11_told ∈ lw_g := lw_gg (lw_in3 (List.mem_of_getElem? (i := 70) rfl)) rfl
set_option maxRecDepth 20000 in
theorem hC_X11_told : Cond.code yX11_told cX11_told 2 (some .int) ∈ lw_g := lw_gg (lw_in3 (List.mem_of_getElem? (i := 71) rfl)) rfl
set_option maxRecDepth 20000 in
theorem hM_L_66 : Cond.methodLink RL 66 yX11_was ∈ lw_g := lw_gg (lw_in3 (List.mem_of_getElem? (i := 72) rfl)) rfl
set_option maxRecDepth 20000 in
theorem hI_X11_was : Cond.instanceMethod yX11_was ∈ lw_g := lw_gg (lw_in3 (List.mem_of_getElem? (i := 73) rfl)) rfl
set_option maxRecDepth 20000 in
theorem hS_X11_was : Cond.selects RX11 yX11_was yX11_was ∈ lw_g := lw_gg (lw_in3 (List.mem_of_getElem? (i := 74) rfl)) rfl
set_option maxRecDepth 20000 in
theorem hC_X11_was : Cond.code yX11_was cX11_was 3 (some .int) ∈ lw_g := lw_gg (lw_in3 (List.mem_of_getElem? (i := 75) rfl)) rfl
set_option maxRecDepth 20000 in
theorem hM_X11_193 : Cond.methodLink RX11 193 yX3_part ∈ lw_g := lw_gg (lw_in3 (List.mem_of_getElem? (i := 76) rfl)) rfl
set_option maxRecDepth 20000 in
theorem hM_L_70 : Cond.methodLink RL 70 yX11_mark ∈ lw_g := lw_gg (lw_in3 (List.mem_of_getElem? (i := 77) rfl)) rfl
set_option maxRecDepth 20000 in
theorem hI_X11_mark : Cond.instanceMethod yX11_mark ∈ lw_g := lw_gg (lw_in3 (List.mem_of_getElem? (i := 78) rfl)) rfl
set_option maxRecDepth 20000 in
theorem hS_X11_mark : Cond.selects RX11 yX11_mark yX11_mark ∈ lw_g := lw_gg (lw_in3 (List.mem_of_getElem? (i := 79) rfl)) rfl
set_option maxRecDepth 20000 in
theorem hC_X11_mark : Cond.code yX11_mark cX11_mark 2 (some .int) ∈ lw_g := lw_gg (lw_in3 (List.mem_of_getElem? (i := 80) rfl)) rfl
set_option maxRecDepth 20000 in
theorem hM_X11_196 : Cond.methodLink RX11 196 yX5_has ∈ lw_g := lw_gg (lw_in3 (List.mem_of_getElem? (i := 81) rfl)) rfl
set_option maxRecDepth 20000 in
theorem hI_X5_has : Cond.instanceMethod yX5_has ∈ lw_g := lw_gg (lw_in3 (List.mem_of_getElem? (i := 82) rfl)) rfl
set_option maxRecDepth 20000 in
theorem hS_X5_has : Cond.selects RX5 yX5_has yX5_has ∈ lw_g := lw_gg (lw_in3 (List.mem_of_getElem? (i := 83) rfl)) rfl
set_option maxRecDepth 20000 in
theorem hC_X5_has : Cond.code yX5_has cX5_has 2 (some .boolean) ∈ lw_g := lw_gg (lw_in3 (List.mem_of_getElem? (i := 84) rfl)) rfl
set_option maxRecDepth 20000 in
theorem hM_X11_197 : Cond.methodLink RX11 197 yX5_first ∈ lw_g := lw_gg (lw_in3 (List.mem_of_getElem? (i := 85) rfl)) rfl
set_option maxRecDepth 20000 in
theorem hI_X5_first : Cond.instanceMethod yX5_first ∈ lw_g := lw_gg (lw_in3 (List.mem_of_getElem? (i := 86) rfl)) rfl
set_option maxRecDepth 20000 in
theorem hS_X5_first : Cond.selects RX5 yX5_first yX5_first ∈ lw_g := lw_gg (lw_in3 (List.mem_of_getElem? (i := 87) rfl)) rfl
set_option maxRecDepth 20000 in
theorem hC_X5_first : Cond.code yX5_first cX5_first 2 (some .int) ∈ lw_g := lw_gg (lw_in3 (List.mem_of_getElem? (i := 88) rfl)) rfl
set_option maxRecDepth 20000 in
theorem hM_L_74 : Cond.methodLink RL 74 yX11_channel ∈ lw_g := lw_gg (lw_in3 (List.mem_of_getElem? (i := 89) rfl)) rfl
set_option maxRecDepth 20000 in
theorem hI_X11_channel : Cond.instanceMethod yX11_channel ∈ lw_g := lw_gg (lw_in3 (List.mem_of_getElem? (i := 90) rfl)) rfl
set_option maxRecDepth 20000 in
theorem hS_X11_channel : Cond.selects RX11 yX11_channel yX11_channel ∈ lw_g := lw_gg (lw_in3 (List.mem_of_getElem? (i := 91) rfl)) rfl
set_option maxRecDepth 20000 in
theorem hC_X11_channel : Cond.code yX11_channel cX11_channel 6 (some .int) ∈ lw_g := lw_gg (lw_in3 (List.mem_of_getElem? (i := 92) rfl)) rfl
set_option maxRecDepth 20000 in
theorem hL_X11_200 : Cond.classLink RX11 200 RX1 ∈ lw_g := lw_gg (lw_in3 (List.mem_of_getElem? (i := 93) rfl)) rfl
set_option maxRecDepth 20000 in
theorem hB_X1 : Cond.instantiable RX1 8 ∈ lw_g := lw_gg (lw_in3 (List.mem_of_getElem? (i := 94) rfl)) rfl
set_option maxRecDepth 20000 in
theorem hM_X11_202 : Cond.methodLink RX11 202 yX1_init ∈ lw_g := lw_gg (lw_in3 (List.mem_of_getElem? (i := 95) rfl)) rfl
set_option maxRecDepth 20000 in
theorem hI_X1_init : Cond.instanceMethod yX1_init ∈ lw_g := lw_gg (lw_in3 (List.mem_of_getElem? (i := 96) rfl)) rfl
set_option maxRecDepth 20000 in
theorem hC_X1_init : Cond.code yX1_init cX1_init 7 none ∈ lw_g := lw_gg (lw_in3 (List.mem_of_getElem? (i := 97) rfl)) rfl
set_option maxRecDepth 20000 in
theorem hM_X1_1 : Cond.methodLink RX1 1 objectInit ∈ lw_g := lw_gg (lw_in3 (List.mem_of_getElem? (i := 98) rfl)) rfl
set_option maxRecDepth 20000 in
theorem hF_X1_17 : Cond.fieldLink RX1 17 "EngineCell$Channel" "number" "I" ∈ lw_g := lw_gg (lw_in3 (List.mem_of_getElem? (i := 99) rfl)) rfl
set_option maxRecDepth 20000 in
theorem hF_X2_48 : Cond.fieldLink RX2 48 "EngineCell$Channel" "number" "I" ∈ lw_g := lw_gg (lw_in3 (List.mem_of_getElem? (i := 100) rfl)) rfl
set_option maxRecDepth 20000 in
theorem hF_X7_102 : Cond.fieldLink RX7 102 "EngineCell$Channel" "number" "I" ∈ lw_g := lw_gg (lw_in3 (List.mem_of_getElem? (i := 101) rfl)) rfl
set_option maxRecDepth 20000 in
theorem hF_X1_20 : Cond.fieldLink RX1 20 "EngineCell$Channel" "source" "I" ∈ lw_g := lw_gg (lw_in3 (List.mem_of_getElem? (i := 102) rfl)) rfl
set_option maxRecDepth 20000 in
theorem hF_X2_55 : Cond.fieldLink RX2 55 "EngineCell$Channel" "source" "I" ∈ lw_g := lw_gg (lw_in3 (List.mem_of_getElem? (i := 103) rfl)) rfl
set_option maxRecDepth 20000 in
theorem hF_X1_23 : Cond.fieldLink RX1 23 "EngineCell$Channel" "rate" "I" ∈ lw_g := lw_gg (lw_in3 (List.mem_of_getElem? (i := 104) rfl)) rfl
set_option maxRecDepth 20000 in
theorem hF_X4_68 : Cond.fieldLink RX4 68 "EngineCell$Channel" "rate" "I" ∈ lw_g := lw_gg (lw_in3 (List.mem_of_getElem? (i := 105) rfl)) rfl
set_option maxRecDepth 20000 in
theorem hF_X7_70 : Cond.fieldLink RX7 70 "EngineCell$Channel" "rate" "I" ∈ lw_g := lw_gg (lw_in3 (List.mem_of_getElem? (i := 106) rfl)) rfl
set_option maxRecDepth 20000 in
theorem hF_X1_26 : Cond.fieldLink RX1 26 "EngineCell$Channel" "delay" "I" ∈ lw_g := lw_gg (lw_in3 (List.mem_of_getElem? (i := 107) rfl)) rfl
set_option maxRecDepth 20000 in
theorem hF_X4_55 : Cond.fieldLink RX4 55 "EngineCell$Channel" "delay" "I" ∈ lw_g := lw_gg (lw_in3 (List.mem_of_getElem? (i := 108) rfl)) rfl
set_option maxRecDepth 20000 in
theorem hF_X2_45 : Cond.fieldLink RX2 45 "EngineCell$Channel" "delay" "I" ∈ lw_g := lw_gg (lw_in3 (List.mem_of_getElem? (i := 109) rfl)) rfl
set_option maxRecDepth 20000 in
theorem hF_X1_29 : Cond.fieldLink RX1 29 "EngineCell$Channel" "low" "I" ∈ lw_g := lw_gg (lw_in3 (List.mem_of_getElem? (i := 110) rfl)) rfl
set_option maxRecDepth 20000 in
theorem hF_X2_63 : Cond.fieldLink RX2 63 "EngineCell$Channel" "low" "I" ∈ lw_g := lw_gg (lw_in3 (List.mem_of_getElem? (i := 111) rfl)) rfl
set_option maxRecDepth 20000 in
theorem hF_X1_32 : Cond.fieldLink RX1 32 "EngineCell$Channel" "high" "I" ∈ lw_g := lw_gg (lw_in3 (List.mem_of_getElem? (i := 112) rfl)) rfl
set_option maxRecDepth 20000 in
theorem hF_X2_66 : Cond.fieldLink RX2 66 "EngineCell$Channel" "high" "I" ∈ lw_g := lw_gg (lw_in3 (List.mem_of_getElem? (i := 113) rfl)) rfl
set_option maxRecDepth 20000 in
theorem hF_X1_7 : Cond.fieldLink RX1 7 "EngineCell$Channel" "limited" "Z" ∈ lw_g := lw_gg (lw_in3 (List.mem_of_getElem? (i := 114) rfl)) rfl
set_option maxRecDepth 20000 in
theorem hF_X2_82 : Cond.fieldLink RX2 82 "EngineCell$Channel" "limited" "Z" ∈ lw_g := lw_gg (lw_in3 (List.mem_of_getElem? (i := 115) rfl)) rfl
set_option maxRecDepth 20000 in
theorem hF_X11_212 : Cond.fieldLink RX11 212 "EngineCell$Channel" "limited" "Z" ∈ lw_g := lw_gg (lw_in3 (List.mem_of_getElem? (i := 116) rfl)) rfl
set_option maxRecDepth 20000 in
theorem hF_X1_13 : Cond.fieldLink RX1 13 "EngineCell$Channel" "limit" "I" ∈ lw_g := lw_gg (lw_in3 (List.mem_of_getElem? (i := 117) rfl)) rfl
set_option maxRecDepth 20000 in
theorem hF_X2_94 : Cond.fieldLink RX2 94 "EngineCell$Channel" "limit" "I" ∈ lw_g := lw_gg (lw_in3 (List.mem_of_getElem? (i := 118) rfl)) rfl
set_option maxRecDepth 20000 in
theorem hF_X11_216 : Cond.fieldLink RX11 216 "EngineCell$Channel" "limit" "I" ∈ lw_g := lw_gg (lw_in3 (List.mem_of_getElem? (i := 119) rfl)) rfl
set_option maxRecDepth 20000 in
theorem hM_X11_205 : Cond.methodLink RX11 205 yX2_add ∈ lw_g := lw_gg (lw_in3 (List.mem_of_getElem? (i := 137) rfl)) rfl
set_option maxRecDepth 20000 in
theorem hI_X2_add : Cond.instanceMethod yX2_add ∈ lw_g := lw_gg (lw_in3 (List.mem_of_getElem? (i := 138) rfl)) rfl
set_option maxRecDepth 20000 in
theorem hS_X2_add : Cond.selects RX2 yX2_add yX2_add ∈ lw_g := lw_gg (lw_in3 (List.mem_of_getElem? (i := 139) rfl)) rfl
set_option maxRecDepth 20000 in
theorem hC_X2_add : Cond.code yX2_add cX2_add 2 none ∈ lw_g := lw_gg (lw_in3 (List.mem_of_getElem? (i := 140) rfl)) rfl
set_option maxRecDepth 20000 in
theorem hM_L_79 : Cond.methodLink RL 79 yX11_limit ∈ lw_g := lw_gg (lw_in3 (List.mem_of_getElem? (i := 141) rfl)) rfl
set_option maxRecDepth 20000 in
theorem hI_X11_limit : Cond.instanceMethod yX11_limit ∈ lw_g := lw_gg (lw_in3 (List.mem_of_getElem? (i := 142) rfl)) rfl
set_option maxRecDepth 20000 in
theorem hS_X11_limit : Cond.selects RX11 yX11_limit yX11_limit ∈ lw_g := lw_gg (lw_in3 (List.mem_of_getElem? (i := 143) rfl)) rfl
set_option maxRecDepth 20000 in
theorem hC_X11_limit : Cond.code yX11_limit cX11_limit 4 (some .int) ∈ lw_g := lw_gg (lw_in3 (List.mem_of_getElem? (i := 144) rfl)) rfl
set_option maxRecDepth 20000 in
theorem hM_X11_208 : Cond.methodLink RX11 208 yX2_find ∈ lw_g := lw_gg (lw_in3 (List.mem_of_getElem? (i := 145) rfl)) rfl
set_option maxRecDepth 20000 in
theorem hM_L_83 : Cond.methodLink RL 83 yX11_lose ∈ lw_g := lw_gg (lw_in3 (List.mem_of_getElem? (i := 146) rfl)) rfl
set_option maxRecDepth 20000 in
theorem hI_X11_lose : Cond.instanceMethod yX11_lose ∈ lw_g := lw_gg (lw_in3 (List.mem_of_getElem? (i := 147) rfl)) rfl
set_option maxRecDepth 20000 in
theorem hS_X11_lose : Cond.selects RX11 yX11_lose yX11_lose ∈ lw_g := lw_gg (lw_in3 (List.mem_of_getElem? (i := 148) rfl)) rfl
set_option maxRecDepth 20000 in
theorem hC_X11_lose : Cond.code yX11_lose cX11_lose 4 (some .int) ∈ lw_g := lw_gg (lw_in3 (List.mem_of_getElem? (i := 149) rfl)) rfl
set_option maxRecDepth 20000 in
theorem hM_X11_222 : Cond.methodLink RX11 222 yX10_add ∈ lw_g := lw_gg (lw_in3 (List.mem_of_getElem? (i := 150) rfl)) rfl
set_option maxRecDepth 20000 in
theorem hI_X10_add : Cond.instanceMethod yX10_add ∈ lw_g := lw_gg (lw_in3 (List.mem_of_getElem? (i := 151) rfl)) rfl
set_option maxRecDepth 20000 in
theorem hS_X10_add : Cond.selects RX10 yX10_add yX10_add ∈ lw_g := lw_gg (lw_in3 (List.mem_of_getElem? (i := 152) rfl)) rfl
set_option maxRecDepth 20000 in
theorem hC_X10_add : Cond.code yX10_add cX10_add 5 none ∈ lw_g := lw_gg (lw_in3 (List.mem_of_getElem? (i := 153) rfl)) rfl
set_option maxRecDepth 20000 in
theorem hN_X10_28 : Cond.methodLinkNest RX10 28 yX11_within "EngineCell" ∈ lw_tbl := lw_in3 (List.mem_of_getElem? (i := 154) rfl)
set_option maxRecDepth 20000 in
theorem hM_L_88 : Cond.methodLink RL 88 yX11_correct ∈ lw_g := lw_gg (lw_in3 (List.mem_of_getElem? (i := 155) rfl)) rfl
set_option maxRecDepth 20000 in
theorem hI_X11_correct : Cond.instanceMethod yX11_correct ∈ lw_g := lw_gg (lw_in3 (List.mem_of_getElem? (i := 156) rfl)) rfl
set_option maxRecDepth 20000 in
theorem hS_X11_correct : Cond.selects RX11 yX11_correct yX11_correct ∈ lw_g := lw_gg (lw_in3 (List.mem_of_getElem? (i := 157) rfl)) rfl
set_option maxRecDepth 20000 in
theorem hC_X11_correct : Cond.code yX11_correct cX11_correct 6 (some .int) ∈ lw_g := lw_gg (lw_in3 (List.mem_of_getElem? (i := 158) rfl)) rfl
set_option maxRecDepth 20000 in
theorem hM_X11_223 : Cond.methodLink RX11 223 yX7_keepAhead ∈ lw_g := lw_gg (lw_in3 (List.mem_of_getElem? (i := 159) rfl)) rfl
set_option maxRecDepth 20000 in
theorem hI_X7_keepAhead : Cond.instanceMethod yX7_keepAhead ∈ lw_g := lw_gg (lw_in3 (List.mem_of_getElem? (i := 160) rfl)) rfl
set_option maxRecDepth 20000 in
theorem hS_X7_keepAhead : Cond.selects RX7 yX7_keepAhead yX7_keepAhead ∈ lw_g := lw_gg (lw_in3 (List.mem_of_getElem? (i := 161) rfl)) rfl
set_option maxRecDepth 20000 in
theorem hC_X7_keepAhead : Cond.code yX7_keepAhead cX7_keepAhead 4 none ∈ lw_g := lw_gg (lw_in3 (List.mem_of_getElem? (i := 162) rfl)) rfl
set_option maxRecDepth 20000 in
theorem hM_X7_98 : Cond.methodLink RX7 98 yX7_reckon ∈ lw_g := lw_gg (lw_in3 (List.mem_of_getElem? (i := 163) rfl)) rfl
set_option maxRecDepth 20000 in
theorem hI_X7_reckon : Cond.instanceMethod yX7_reckon ∈ lw_g := lw_gg (lw_in3 (List.mem_of_getElem? (i := 164) rfl)) rfl
set_option maxRecDepth 20000 in
theorem hS_X7_reckon : Cond.selects RX7 yX7_reckon yX7_reckon ∈ lw_g := lw_gg (lw_in3 (List.mem_of_getElem? (i := 165) rfl)) rfl
set_option maxRecDepth 20000 in
theorem hC_X7_reckon : Cond.code yX7_reckon cX7_reckon 10 none ∈ lw_g := lw_gg (lw_in3 (List.mem_of_getElem? (i := 166) rfl)) rfl
set_option maxRecDepth 20000 in
theorem hM_X7_47 : Cond.methodLink RX7 47 yX5_last ∈ lw_g := lw_gg (lw_in3 (List.mem_of_getElem? (i := 167) rfl)) rfl
set_option maxRecDepth 20000 in
theorem hI_X5_last : Cond.instanceMethod yX5_last ∈ lw_g := lw_gg (lw_in3 (List.mem_of_getElem? (i := 168) rfl)) rfl
set_option maxRecDepth 20000 in
theorem hS_X5_last : Cond.selects RX5 yX5_last yX5_last ∈ lw_g := lw_gg (lw_in3 (List.mem_of_getElem? (i := 169) rfl)) rfl
set_option maxRecDepth 20000 in
theorem hC_X5_last : Cond.code yX5_last cX5_last 3 (some .int) ∈ lw_g := lw_gg (lw_in3 (List.mem_of_getElem? (i := 170) rfl)) rfl
set_option maxRecDepth 20000 in
theorem hM_X5_23 : Cond.methodLink RX5 23 yX5_has ∈ lw_g := lw_gg (lw_in3 (List.mem_of_getElem? (i := 171) rfl)) rfl
set_option maxRecDepth 20000 in
theorem hM_X5_27 : Cond.methodLink RX5 27 yX5_first ∈ lw_g := lw_gg (lw_in3 (List.mem_of_getElem? (i := 172) rfl)) rfl
set_option maxRecDepth 20000 in
theorem hM_X7_53 : Cond.methodLink RX7 53 yX5_first ∈ lw_g := lw_gg (lw_in3 (List.mem_of_getElem? (i := 173) rfl)) rfl
set_option maxRecDepth 20000 in
theorem hM_X7_57 : Cond.methodLink RX7 57 yX1_firstFrom ∈ lw_g := lw_gg (lw_in3 (List.mem_of_getElem? (i := 174) rfl)) rfl
set_option maxRecDepth 20000 in
theorem hI_X1_firstFrom : Cond.instanceMethod yX1_firstFrom ∈ lw_g := lw_gg (lw_in3 (List.mem_of_getElem? (i := 175) rfl)) rfl
set_option maxRecDepth 20000 in
theorem hS_X1_firstFrom : Cond.selects RX1 yX1_firstFrom yX1_firstFrom ∈ lw_g := lw_gg (lw_in3 (List.mem_of_getElem? (i := 176) rfl)) rfl
set_option maxRecDepth 20000 in
theorem hC_X1_firstFrom : Cond.code yX1_firstFrom cX1_firstFrom 2 (some .int) ∈ lw_g := lw_gg (lw_in3 (List.mem_of_getElem? (i := 177) rfl)) rfl
set_option maxRecDepth 20000 in
theorem hM_X1_35 : Cond.methodLink RX1 35 yX1_latestAt ∈ lw_g := lw_gg (lw_in3 (List.mem_of_getElem? (i := 178) rfl)) rfl
set_option maxRecDepth 20000 in
theorem hM_X7_62 : Cond.methodLink RX7 62 yX2_value ∈ lw_g := lw_gg (lw_in3 (List.mem_of_getElem? (i := 179) rfl)) rfl
set_option maxRecDepth 20000 in
theorem hK_X7_68 : Cond.constantLong RX7 68 (-9223372036854775808) ∈ lw_g := lw_gg (lw_in3 (List.mem_of_getElem? (i := 180) rfl)) rfl
set_option maxRecDepth 20000 in
theorem hM_X7_73 : Cond.methodLink RX7 73 yX7_join ∈ lw_g := lw_gg (lw_in3 (List.mem_of_getElem? (i := 181) rfl)) rfl
set_option maxRecDepth 20000 in
theorem hI_X7_join : Cond.instanceMethod yX7_join ∈ lw_g := lw_gg (lw_in3 (List.mem_of_getElem? (i := 183) rfl)) rfl
set_option maxRecDepth 20000 in
theorem hC_X7_join : Cond.code yX7_join cX7_join 5 none ∈ lw_g := lw_gg (lw_in3 (List.mem_of_getElem? (i := 184) rfl)) rfl
set_option maxRecDepth 20000 in
theorem hM_X7_77 : Cond.methodLink RX7 77 yX2_isFull ∈ lw_g := lw_gg (lw_in3 (List.mem_of_getElem? (i := 185) rfl)) rfl
set_option maxRecDepth 20000 in
theorem hI_X2_isFull : Cond.instanceMethod yX2_isFull ∈ lw_g := lw_gg (lw_in3 (List.mem_of_getElem? (i := 186) rfl)) rfl
set_option maxRecDepth 20000 in
theorem hS_X2_isFull : Cond.selects RX2 yX2_isFull yX2_isFull ∈ lw_g := lw_gg (lw_in3 (List.mem_of_getElem? (i := 187) rfl)) rfl
set_option maxRecDepth 20000 in
theorem hC_X2_isFull : Cond.code yX2_isFull cX2_isFull 3 (some .boolean) ∈ lw_g := lw_gg (lw_in3 (List.mem_of_getElem? (i := 188) rfl)) rfl
set_option maxRecDepth 20000 in
theorem hM_X7_81 : Cond.methodLink RX7 81 yX7_count ∈ lw_g := lw_gg (lw_in3 (List.mem_of_getElem? (i := 189) rfl)) rfl
set_option maxRecDepth 20000 in
theorem hI_X7_count : Cond.instanceMethod yX7_count ∈ lw_g := lw_gg (lw_in3 (List.mem_of_getElem? (i := 191) rfl)) rfl
set_option maxRecDepth 20000 in
theorem hC_X7_count : Cond.code yX7_count cX7_count 5 none ∈ lw_g := lw_gg (lw_in3 (List.mem_of_getElem? (i := 192) rfl)) rfl
set_option maxRecDepth 20000 in
theorem hM_X7_90 : Cond.methodLink RX7 90 yJ9_min_f86c9 ∈ lw_g := lw_gg (lw_in3 (List.mem_of_getElem? (i := 193) rfl)) rfl
set_option maxRecDepth 20000 in
theorem hT_J9_min_f86c9 : Cond.static yJ9_min_f86c9 ∈ lw_g := lw_gg (lw_in3 (List.mem_of_getElem? (i := 194) rfl)) rfl
set_option maxRecDepth 20000 in
theorem hC_J9_min_f86c9 : Cond.code yJ9_min_f86c9 cJ9_min_f86c9 4 (some .long) ∈ lw_g := lw_gg (lw_in3 (List.mem_of_getElem? (i := 195) rfl)) rfl
set_option maxRecDepth 20000 in
theorem hM_X7_94 : Cond.methodLink RX7 94 yJ9_max_f86c9 ∈ lw_g := lw_gg (lw_in3 (List.mem_of_getElem? (i := 196) rfl)) rfl
set_option maxRecDepth 20000 in
theorem hT_J9_max_f86c9 : Cond.static yJ9_max_f86c9 ∈ lw_g := lw_gg (lw_in3 (List.mem_of_getElem? (i := 197) rfl)) rfl
set_option maxRecDepth 20000 in
theorem hC_J9_max_f86c9 : Cond.code yJ9_max_f86c9 cJ9_max_f86c9 4 (some .long) ∈ lw_g := lw_gg (lw_in3 (List.mem_of_getElem? (i := 198) rfl)) rfl
set_option maxRecDepth 20000 in
theorem hM_X7_85 : Cond.methodLink RX7 85 yJ9_max_7cf53 ∈ lw_g := lw_gg (lw_in3 (List.mem_of_getElem? (i := 199) rfl)) rfl
set_option maxRecDepth 20000 in
theorem hM_X11_226 : Cond.methodLink RX11 226 yX7_nameOthers ∈ lw_g := lw_gg (lw_in3 (List.mem_of_getElem? (i := 200) rfl)) rfl
set_option maxRecDepth 20000 in
theorem hI_X7_nameOthers : Cond.instanceMethod yX7_nameOthers ∈ lw_g := lw_gg (lw_in3 (List.mem_of_getElem? (i := 201) rfl)) rfl
set_option maxRecDepth 20000 in
theorem hS_X7_nameOthers : Cond.selects RX7 yX7_nameOthers yX7_nameOthers ∈ lw_g := lw_gg (lw_in3 (List.mem_of_getElem? (i := 202) rfl)) rfl
set_option maxRecDepth 20000 in
theorem hC_X7_nameOthers : Cond.code yX7_nameOthers cX7_nameOthers 4 none ∈ lw_g := lw_gg (lw_in3 (List.mem_of_getElem? (i := 203) rfl)) rfl
set_option maxRecDepth 20000 in
theorem hM_X7_105 : Cond.methodLink RX7 105 yX7_name ∈ lw_g := lw_gg (lw_in3 (List.mem_of_getElem? (i := 204) rfl)) rfl
set_option maxRecDepth 20000 in
theorem hI_X7_name : Cond.instanceMethod yX7_name ∈ lw_g := lw_gg (lw_in3 (List.mem_of_getElem? (i := 206) rfl)) rfl
set_option maxRecDepth 20000 in
theorem hC_X7_name : Cond.code yX7_name cX7_name 2 none ∈ lw_g := lw_gg (lw_in3 (List.mem_of_getElem? (i := 207) rfl)) rfl
set_option maxRecDepth 20000 in
theorem hN_X7_38 : Cond.methodLinkNest RX7 38 yX11_within "EngineCell" ∈ lw_tbl := lw_in3 (List.mem_of_getElem? (i := 208) rfl)
set_option maxRecDepth 20000 in
theorem hM_L_92 : Cond.methodLink RL 92 yX11_other ∈ lw_g := lw_gg (lw_in3 (List.mem_of_getElem? (i := 209) rfl)) rfl
set_option maxRecDepth 20000 in
theorem hI_X11_other : Cond.instanceMethod yX11_other ∈ lw_g := lw_gg (lw_in3 (List.mem_of_getElem? (i := 210) rfl)) rfl
set_option maxRecDepth 20000 in
theorem hS_X11_other : Cond.selects RX11 yX11_other yX11_other ∈ lw_g := lw_gg (lw_in3 (List.mem_of_getElem? (i := 211) rfl)) rfl
set_option maxRecDepth 20000 in
theorem hC_X11_other : Cond.code yX11_other cX11_other 2 (some .int) ∈ lw_g := lw_gg (lw_in3 (List.mem_of_getElem? (i := 212) rfl)) rfl
set_option maxRecDepth 20000 in
theorem hM_X11_232 : Cond.methodLink RX11 232 yX7_otherAt ∈ lw_g := lw_gg (lw_in3 (List.mem_of_getElem? (i := 213) rfl)) rfl
set_option maxRecDepth 20000 in
theorem hI_X7_otherAt : Cond.instanceMethod yX7_otherAt ∈ lw_g := lw_gg (lw_in3 (List.mem_of_getElem? (i := 214) rfl)) rfl
set_option maxRecDepth 20000 in
theorem hS_X7_otherAt : Cond.selects RX7 yX7_otherAt yX7_otherAt ∈ lw_g := lw_gg (lw_in3 (List.mem_of_getElem? (i := 215) rfl)) rfl
set_option maxRecDepth 20000 in
theorem hC_X7_otherAt : Cond.code yX7_otherAt cX7_otherAt 2 (some .int) ∈ lw_g := lw_gg (lw_in3 (List.mem_of_getElem? (i := 216) rfl)) rfl
set_option maxRecDepth 20000 in
theorem hM_L_96 : Cond.methodLink RL 96 yX11_reading ∈ lw_g := lw_gg (lw_in3 (List.mem_of_getElem? (i := 217) rfl)) rfl
set_option maxRecDepth 20000 in
theorem hI_X11_reading : Cond.instanceMethod yX11_reading ∈ lw_g := lw_gg (lw_in3 (List.mem_of_getElem? (i := 218) rfl)) rfl
set_option maxRecDepth 20000 in
theorem hS_X11_reading : Cond.selects RX11 yX11_reading yX11_reading ∈ lw_g := lw_gg (lw_in3 (List.mem_of_getElem? (i := 219) rfl)) rfl
set_option maxRecDepth 20000 in
theorem hC_X11_reading : Cond.code yX11_reading cX11_reading 4 (some .long) ∈ lw_g := lw_gg (lw_in3 (List.mem_of_getElem? (i := 220) rfl)) rfl
set_option maxRecDepth 20000 in
theorem hM_X11_235 : Cond.methodLink RX11 235 yX1_readsAt ∈ lw_g := lw_gg (lw_in3 (List.mem_of_getElem? (i := 221) rfl)) rfl
set_option maxRecDepth 20000 in
theorem hM_X11_238 : Cond.methodLink RX11 238 yX2_value ∈ lw_g := lw_gg (lw_in3 (List.mem_of_getElem? (i := 222) rfl)) rfl
set_option maxRecDepth 20000 in
theorem hM_L_100 : Cond.methodLink RL 100 yX11_state ∈ lw_g := lw_gg (lw_in3 (List.mem_of_getElem? (i := 223) rfl)) rfl
set_option maxRecDepth 20000 in
theorem hI_X11_state : Cond.instanceMethod yX11_state ∈ lw_g := lw_gg (lw_in3 (List.mem_of_getElem? (i := 224) rfl)) rfl
set_option maxRecDepth 20000 in
theorem hS_X11_state : Cond.selects RX11 yX11_state yX11_state ∈ lw_g := lw_gg (lw_in3 (List.mem_of_getElem? (i := 225) rfl)) rfl
set_option maxRecDepth 20000 in
theorem hC_X11_state : Cond.code yX11_state cX11_state 4 (some .int) ∈ lw_g := lw_gg (lw_in3 (List.mem_of_getElem? (i := 226) rfl)) rfl
set_option maxRecDepth 20000 in
theorem hM_X11_242 : Cond.methodLink RX11 242 yX2_isLost ∈ lw_g := lw_gg (lw_in3 (List.mem_of_getElem? (i := 227) rfl)) rfl
set_option maxRecDepth 20000 in
theorem hM_X11_246 : Cond.methodLink RX11 246 yX2_isFull ∈ lw_g := lw_gg (lw_in3 (List.mem_of_getElem? (i := 228) rfl)) rfl
set_option maxRecDepth 20000 in
theorem hM_L_104 : Cond.methodLink RL 104 yX11_report ∈ lw_g := lw_gg (lw_in3 (List.mem_of_getElem? (i := 229) rfl)) rfl
set_option maxRecDepth 20000 in
theorem hI_X11_report : Cond.instanceMethod yX11_report ∈ lw_g := lw_gg (lw_in3 (List.mem_of_getElem? (i := 230) rfl)) rfl
set_option maxRecDepth 20000 in
theorem hS_X11_report : Cond.selects RX11 yX11_report yX11_report ∈ lw_g := lw_gg (lw_in3 (List.mem_of_getElem? (i := 231) rfl)) rfl
set_option maxRecDepth 20000 in
theorem hC_X11_report : Cond.code yX11_report cX11_report 5 (some .long) ∈ lw_g := lw_gg (lw_in3 (List.mem_of_getElem? (i := 232) rfl)) rfl
set_option maxRecDepth 20000 in
theorem hM_X11_249 : Cond.methodLink RX11 249 yX7_reckon ∈ lw_g := lw_gg (lw_in3 (List.mem_of_getElem? (i := 233) rfl)) rfl
set_option maxRecDepth 20000 in
theorem hM_X11_253 : Cond.methodLink RX11 253 yX7_number ∈ lw_g := lw_gg (lw_in3 (List.mem_of_getElem? (i := 234) rfl)) rfl
set_option maxRecDepth 20000 in
theorem hI_X7_number : Cond.instanceMethod yX7_number ∈ lw_g := lw_gg (lw_in3 (List.mem_of_getElem? (i := 235) rfl)) rfl
set_option maxRecDepth 20000 in
theorem hS_X7_number : Cond.selects RX7 yX7_number yX7_number ∈ lw_g := lw_gg (lw_in3 (List.mem_of_getElem? (i := 236) rfl)) rfl
set_option maxRecDepth 20000 in
theorem hC_X7_number : Cond.code yX7_number cX7_number 2 (some .long) ∈ lw_g := lw_gg (lw_in3 (List.mem_of_getElem? (i := 237) rfl)) rfl
set_option maxRecDepth 20000 in
theorem hM_L_109 : Cond.methodLink RL 109 yX11_valid ∈ lw_g := lw_gg (lw_in3 (List.mem_of_getElem? (i := 238) rfl)) rfl
set_option maxRecDepth 20000 in
theorem hI_X11_valid : Cond.instanceMethod yX11_valid ∈ lw_g := lw_gg (lw_in3 (List.mem_of_getElem? (i := 239) rfl)) rfl
set_option maxRecDepth 20000 in
theorem hS_X11_valid : Cond.selects RX11 yX11_valid yX11_valid ∈ lw_g := lw_gg (lw_in4 (List.mem_of_getElem? (i := 0) rfl)) rfl
set_option maxRecDepth 20000 in
theorem hC_X11_valid : Cond.code yX11_valid cX11_valid 3 (some .int) ∈ lw_g := lw_gg (lw_in4 (List.mem_of_getElem? (i := 1) rfl)) rfl
set_option maxRecDepth 20000 in
theorem hM_X11_257 : Cond.methodLink RX11 257 yX4_reckon ∈ lw_g := lw_gg (lw_in4 (List.mem_of_getElem? (i := 2) rfl)) rfl
set_option maxRecDepth 20000 in
theorem hI_X4_reckon : Cond.instanceMethod yX4_reckon ∈ lw_g := lw_gg (lw_in4 (List.mem_of_getElem? (i := 3) rfl)) rfl
set_option maxRecDepth 20000 in
theorem hS_X4_reckon : Cond.selects RX4 yX4_reckon yX4_reckon ∈ lw_g := lw_gg (lw_in4 (List.mem_of_getElem? (i := 4) rfl)) rfl
set_option maxRecDepth 20000 in
theorem hC_X4_reckon : Cond.code yX4_reckon cX4_reckon 5 none ∈ lw_g := lw_gg (lw_in4 (List.mem_of_getElem? (i := 5) rfl)) rfl
set_option maxRecDepth 20000 in
theorem hM_X4_47 : Cond.methodLink RX4 47 yX2_value ∈ lw_g := lw_gg (lw_in4 (List.mem_of_getElem? (i := 6) rfl)) rfl
set_option maxRecDepth 20000 in
theorem hK_X4_53 : Cond.constantLong RX4 53 (-9223372036854775808) ∈ lw_g := lw_gg (lw_in4 (List.mem_of_getElem? (i := 7) rfl)) rfl
set_option maxRecDepth 20000 in
theorem hM_X4_60 : Cond.methodLink RX4 60 yX3_part ∈ lw_g := lw_gg (lw_in4 (List.mem_of_getElem? (i := 8) rfl)) rfl
set_option maxRecDepth 20000 in
theorem hM_X4_64 : Cond.methodLink RX4 64 yX4_count ∈ lw_g := lw_gg (lw_in4 (List.mem_of_getElem? (i := 9) rfl)) rfl
set_option maxRecDepth 20000 in
theorem hI_X4_count : Cond.instanceMethod yX4_count ∈ lw_g := lw_gg (lw_in4 (List.mem_of_getElem? (i := 11) rfl)) rfl
set_option maxRecDepth 20000 in
theorem hC_X4_count : Cond.code yX4_count cX4_count 5 none ∈ lw_g := lw_gg (lw_in4 (List.mem_of_getElem? (i := 12) rfl)) rfl
set_option maxRecDepth 20000 in
theorem hM_X4_76 : Cond.methodLink RX4 76 yJ9_abs_067f4 ∈ lw_g := lw_gg (lw_in4 (List.mem_of_getElem? (i := 13) rfl)) rfl
set_option maxRecDepth 20000 in
theorem hT_J9_abs_067f4 : Cond.static yJ9_abs_067f4 ∈ lw_g := lw_gg (lw_in4 (List.mem_of_getElem? (i := 14) rfl)) rfl
set_option maxRecDepth 20000 in
theorem hC_J9_abs_067f4 : Cond.code yJ9_abs_067f4 cJ9_abs_067f4 2 (some .long) ∈ lw_g := lw_gg (lw_in4 (List.mem_of_getElem? (i := 15) rfl)) rfl
set_option maxRecDepth 20000 in
theorem hM_X4_80 : Cond.methodLink RX4 80 yJ9_max_f86c9 ∈ lw_g := lw_gg (lw_in4 (List.mem_of_getElem? (i := 16) rfl)) rfl
set_option maxRecDepth 20000 in
theorem hM_X4_71 : Cond.methodLink RX4 71 yJ9_max_7cf53 ∈ lw_g := lw_gg (lw_in4 (List.mem_of_getElem? (i := 17) rfl)) rfl
set_option maxRecDepth 20000 in
theorem hM_X11_259 : Cond.methodLink RX11 259 yX4_verdict ∈ lw_g := lw_gg (lw_in4 (List.mem_of_getElem? (i := 18) rfl)) rfl
set_option maxRecDepth 20000 in
theorem hI_X4_verdict : Cond.instanceMethod yX4_verdict ∈ lw_g := lw_gg (lw_in4 (List.mem_of_getElem? (i := 19) rfl)) rfl
set_option maxRecDepth 20000 in
theorem hS_X4_verdict : Cond.selects RX4 yX4_verdict yX4_verdict ∈ lw_g := lw_gg (lw_in4 (List.mem_of_getElem? (i := 20) rfl)) rfl
set_option maxRecDepth 20000 in
theorem hC_X4_verdict : Cond.code yX4_verdict cX4_verdict 1 (some .int) ∈ lw_g := lw_gg (lw_in4 (List.mem_of_getElem? (i := 21) rfl)) rfl
set_option maxRecDepth 20000 in
theorem hM_X4_83 : Cond.methodLink RX4 83 yX4_b ∈ lw_g := lw_gg (lw_in4 (List.mem_of_getElem? (i := 22) rfl)) rfl
set_option maxRecDepth 20000 in
theorem hI_X4_b : Cond.instanceMethod yX4_b ∈ lw_g := lw_gg (lw_in4 (List.mem_of_getElem? (i := 23) rfl)) rfl
set_option maxRecDepth 20000 in
theorem hS_X4_b : Cond.selects RX4 yX4_b yX4_b ∈ lw_g := lw_gg (lw_in4 (List.mem_of_getElem? (i := 24) rfl)) rfl
set_option maxRecDepth 20000 in
theorem hC_X4_b : Cond.code yX4_b cX4_b 1 (some .long) ∈ lw_g := lw_gg (lw_in4 (List.mem_of_getElem? (i := 25) rfl)) rfl
set_option maxRecDepth 20000 in
theorem hK_X4_87 : Cond.constantLong RX4 87 (950) ∈ lw_g := lw_gg (lw_in4 (List.mem_of_getElem? (i := 26) rfl)) rfl
set_option maxRecDepth 20000 in
theorem hK_X4_89 : Cond.constantLong RX4 89 (1000) ∈ lw_g := lw_gg (lw_in4 (List.mem_of_getElem? (i := 27) rfl)) rfl
set_option maxRecDepth 20000 in
theorem hM_X4_91 : Cond.methodLink RX4 91 yX4_a ∈ lw_g := lw_gg (lw_in4 (List.mem_of_getElem? (i := 28) rfl)) rfl
set_option maxRecDepth 20000 in
theorem hI_X4_a : Cond.instanceMethod yX4_a ∈ lw_g := lw_gg (lw_in4 (List.mem_of_getElem? (i := 29) rfl)) rfl
set_option maxRecDepth 20000 in
theorem hS_X4_a : Cond.selects RX4 yX4_a yX4_a ∈ lw_g := lw_gg (lw_in4 (List.mem_of_getElem? (i := 30) rfl)) rfl
set_option maxRecDepth 20000 in
theorem hC_X4_a : Cond.code yX4_a cX4_a 1 (some .long) ∈ lw_g := lw_gg (lw_in4 (List.mem_of_getElem? (i := 31) rfl)) rfl
set_option maxRecDepth 20000 in
theorem hK_X4_94 : Cond.constantLong RX4 94 (1050) ∈ lw_g := lw_gg (lw_in4 (List.mem_of_getElem? (i := 32) rfl)) rfl
set_option maxRecDepth 20000 in
theorem hK_X4_96 : Cond.constantLong RX4 96 (50) ∈ lw_g := lw_gg (lw_in4 (List.mem_of_getElem? (i := 33) rfl)) rfl
set_option maxRecDepth 20000 in
theorem hK_X4_98 : Cond.constantLong RX4 98 (400) ∈ lw_g := lw_gg (lw_in4 (List.mem_of_getElem? (i := 34) rfl)) rfl
set_option maxRecDepth 20000 in
theorem hM_L_113 : Cond.methodLink RL 113 yX11_law ∈ lw_g := lw_gg (lw_in4 (List.mem_of_getElem? (i := 35) rfl)) rfl
set_option maxRecDepth 20000 in
theorem hI_X11_law : Cond.instanceMethod yX11_law ∈ lw_g := lw_gg (lw_in4 (List.mem_of_getElem? (i := 36) rfl)) rfl
set_option maxRecDepth 20000 in
theorem hS_X11_law : Cond.selects RX11 yX11_law yX11_law ∈ lw_g := lw_gg (lw_in4 (List.mem_of_getElem? (i := 37) rfl)) rfl
set_option maxRecDepth 20000 in
theorem hC_X11_law : Cond.code yX11_law cX11_law 4 (some .long) ∈ lw_g := lw_gg (lw_in4 (List.mem_of_getElem? (i := 38) rfl)) rfl
set_option maxRecDepth 20000 in
theorem hM_X11_267 : Cond.methodLink RX11 267 yX4_a ∈ lw_g := lw_gg (lw_in4 (List.mem_of_getElem? (i := 39) rfl)) rfl
set_option maxRecDepth 20000 in
theorem hM_X11_271 : Cond.methodLink RX11 271 yX4_b ∈ lw_g := lw_gg (lw_in4 (List.mem_of_getElem? (i := 40) rfl)) rfl
set_option maxRecDepth 20000 in
theorem hM_L_117 : Cond.methodLink RL 117 yX11_sheet ∈ lw_g := lw_gg (lw_in4 (List.mem_of_getElem? (i := 41) rfl)) rfl
set_option maxRecDepth 20000 in
theorem hI_X11_sheet : Cond.instanceMethod yX11_sheet ∈ lw_g := lw_gg (lw_in4 (List.mem_of_getElem? (i := 42) rfl)) rfl
set_option maxRecDepth 20000 in
theorem hS_X11_sheet : Cond.selects RX11 yX11_sheet yX11_sheet ∈ lw_g := lw_gg (lw_in4 (List.mem_of_getElem? (i := 43) rfl)) rfl
set_option maxRecDepth 20000 in
theorem hC_X11_sheet : Cond.code yX11_sheet cX11_sheet 5 (some .int) ∈ lw_g := lw_gg (lw_in4 (List.mem_of_getElem? (i := 44) rfl)) rfl
set_option maxRecDepth 20000 in
theorem hM_X11_280 : Cond.methodLink RX11 280 yX9_renew ∈ lw_g := lw_gg (lw_in4 (List.mem_of_getElem? (i := 45) rfl)) rfl
set_option maxRecDepth 20000 in
theorem hI_X9_renew : Cond.instanceMethod yX9_renew ∈ lw_g := lw_gg (lw_in4 (List.mem_of_getElem? (i := 46) rfl)) rfl
set_option maxRecDepth 20000 in
theorem hS_X9_renew : Cond.selects RX9 yX9_renew yX9_renew ∈ lw_g := lw_gg (lw_in4 (List.mem_of_getElem? (i := 47) rfl)) rfl
set_option maxRecDepth 20000 in
theorem hC_X9_renew : Cond.code yX9_renew cX9_renew 4 none ∈ lw_g := lw_gg (lw_in4 (List.mem_of_getElem? (i := 48) rfl)) rfl
set_option maxRecDepth 20000 in
theorem hM_L_121 : Cond.methodLink RL 121 yX11_drop ∈ lw_g := lw_gg (lw_in4 (List.mem_of_getElem? (i := 49) rfl)) rfl
set_option maxRecDepth 20000 in
theorem hI_X11_drop : Cond.instanceMethod yX11_drop ∈ lw_g := lw_gg (lw_in4 (List.mem_of_getElem? (i := 50) rfl)) rfl
set_option maxRecDepth 20000 in
theorem hS_X11_drop : Cond.selects RX11 yX11_drop yX11_drop ∈ lw_g := lw_gg (lw_in4 (List.mem_of_getElem? (i := 51) rfl)) rfl
set_option maxRecDepth 20000 in
theorem hC_X11_drop : Cond.code yX11_drop cX11_drop 4 (some .int) ∈ lw_g := lw_gg (lw_in4 (List.mem_of_getElem? (i := 52) rfl)) rfl
set_option maxRecDepth 20000 in
theorem hM_L_125 : Cond.methodLink RL 125 yX11_put ∈ lw_g := lw_gg (lw_in4 (List.mem_of_getElem? (i := 53) rfl)) rfl
set_option maxRecDepth 20000 in
theorem hI_X11_put : Cond.instanceMethod yX11_put ∈ lw_g := lw_gg (lw_in4 (List.mem_of_getElem? (i := 54) rfl)) rfl
set_option maxRecDepth 20000 in
theorem hS_X11_put : Cond.selects RX11 yX11_put yX11_put ∈ lw_g := lw_gg (lw_in4 (List.mem_of_getElem? (i := 55) rfl)) rfl
set_option maxRecDepth 20000 in
theorem hC_X11_put : Cond.code yX11_put cX11_put 6 (some .int) ∈ lw_g := lw_gg (lw_in4 (List.mem_of_getElem? (i := 56) rfl)) rfl
set_option maxRecDepth 20000 in
theorem hM_X11_286 : Cond.methodLink RX11 286 yX9_write ∈ lw_g := lw_gg (lw_in4 (List.mem_of_getElem? (i := 57) rfl)) rfl
set_option maxRecDepth 20000 in
theorem hI_X9_write : Cond.instanceMethod yX9_write ∈ lw_g := lw_gg (lw_in4 (List.mem_of_getElem? (i := 58) rfl)) rfl
set_option maxRecDepth 20000 in
theorem hS_X9_write : Cond.selects RX9 yX9_write yX9_write ∈ lw_g := lw_gg (lw_in4 (List.mem_of_getElem? (i := 59) rfl)) rfl
set_option maxRecDepth 20000 in
theorem hC_X9_write : Cond.code yX9_write cX9_write 3 none ∈ lw_g := lw_gg (lw_in4 (List.mem_of_getElem? (i := 60) rfl)) rfl
set_option maxRecDepth 20000 in
theorem hM_L_129 : Cond.methodLink RL 129 yX11_at ∈ lw_g := lw_gg (lw_in4 (List.mem_of_getElem? (i := 61) rfl)) rfl
set_option maxRecDepth 20000 in
theorem hI_X11_at : Cond.instanceMethod yX11_at ∈ lw_g := lw_gg (lw_in4 (List.mem_of_getElem? (i := 62) rfl)) rfl
set_option maxRecDepth 20000 in
theorem hS_X11_at : Cond.selects RX11 yX11_at yX11_at ∈ lw_g := lw_gg (lw_in4 (List.mem_of_getElem? (i := 63) rfl)) rfl
set_option maxRecDepth 20000 in
theorem hC_X11_at : Cond.code yX11_at cX11_at 6 (some .long) ∈ lw_g := lw_gg (lw_in4 (List.mem_of_getElem? (i := 64) rfl)) rfl
set_option maxRecDepth 20000 in
theorem hM_X11_289 : Cond.methodLink RX11 289 yX9_cell ∈ lw_g := lw_gg (lw_in4 (List.mem_of_getElem? (i := 65) rfl)) rfl
set_option maxRecDepth 20000 in
theorem hM_L_133 : Cond.methodLink RL 133 yX11_tell ∈ lw_g := lw_gg (lw_in4 (List.mem_of_getElem? (i := 66) rfl)) rfl
set_option maxRecDepth 20000 in
theorem hI_X11_tell : Cond.instanceMethod yX11_tell ∈ lw_g := lw_gg (lw_in4 (List.mem_of_getElem? (i := 67) rfl)) rfl
set_option maxRecDepth 20000 in
theorem hS_X11_tell : Cond.selects RX11 yX11_tell yX11_tell ∈ lw_g := lw_gg (lw_in4 (List.mem_of_getElem? (i := 68) rfl)) rfl
set_option maxRecDepth 20000 in
theorem hC_X11_tell : Cond.code yX11_tell cX11_tell 2 (some .int) ∈ lw_g := lw_gg (lw_in4 (List.mem_of_getElem? (i := 69) rfl)) rfl
set_option maxRecDepth 20000 in
theorem hM_X11_291 : Cond.methodLink RX11 291 yX0_telling ∈ lw_g := lw_gg (lw_in4 (List.mem_of_getElem? (i := 70) rfl)) rfl
set_option maxRecDepth 20000 in
theorem hI_X0_telling : Cond.instanceMethod yX0_telling ∈ lw_g := lw_gg (lw_in4 (List.mem_of_getElem? (i := 71) rfl)) rfl
set_option maxRecDepth 20000 in
theorem hS_X0_telling : Cond.selects RX0 yX0_telling yX0_telling ∈ lw_g := lw_gg (lw_in4 (List.mem_of_getElem? (i := 72) rfl)) rfl
set_option maxRecDepth 20000 in
theorem hC_X0_telling : Cond.code yX0_telling cX0_telling 4 (some .int) ∈ lw_g := lw_gg (lw_in4 (List.mem_of_getElem? (i := 73) rfl)) rfl
set_option maxRecDepth 20000 in
theorem hM_X0_15 : Cond.methodLink RX0 15 yX0_holds ∈ lw_g := lw_gg (lw_in4 (List.mem_of_getElem? (i := 74) rfl)) rfl
set_option maxRecDepth 20000 in
theorem hI_X0_holds : Cond.instanceMethod yX0_holds ∈ lw_g := lw_gg (lw_in4 (List.mem_of_getElem? (i := 76) rfl)) rfl
set_option maxRecDepth 20000 in
theorem hC_X0_holds : Cond.code yX0_holds cX0_holds 2 (some .int) ∈ lw_g := lw_gg (lw_in4 (List.mem_of_getElem? (i := 77) rfl)) rfl
set_option maxRecDepth 20000 in
theorem hM_X0_30 : Cond.methodLink RX0 30 yX0_leave ∈ lw_g := lw_gg (lw_in4 (List.mem_of_getElem? (i := 78) rfl)) rfl
set_option maxRecDepth 20000 in
theorem hI_X0_leave : Cond.instanceMethod yX0_leave ∈ lw_g := lw_gg (lw_in4 (List.mem_of_getElem? (i := 80) rfl)) rfl
set_option maxRecDepth 20000 in
theorem hC_X0_leave : Cond.code yX0_leave cX0_leave 2 none ∈ lw_g := lw_gg (lw_in4 (List.mem_of_getElem? (i := 81) rfl)) rfl
set_option maxRecDepth 20000 in
theorem hM_X0_19 : Cond.methodLink RX0 19 yX0_ramps ∈ lw_g := lw_gg (lw_in4 (List.mem_of_getElem? (i := 82) rfl)) rfl
set_option maxRecDepth 20000 in
theorem hI_X0_ramps : Cond.instanceMethod yX0_ramps ∈ lw_g := lw_gg (lw_in4 (List.mem_of_getElem? (i := 84) rfl)) rfl
set_option maxRecDepth 20000 in
theorem hC_X0_ramps : Cond.code yX0_ramps cX0_ramps 2 (some .int) ∈ lw_g := lw_gg (lw_in4 (List.mem_of_getElem? (i := 85) rfl)) rfl
set_option maxRecDepth 20000 in
theorem hM_X0_22 : Cond.methodLink RX0 22 yX0_waits ∈ lw_g := lw_gg (lw_in4 (List.mem_of_getElem? (i := 86) rfl)) rfl
set_option maxRecDepth 20000 in
theorem hI_X0_waits : Cond.instanceMethod yX0_waits ∈ lw_g := lw_gg (lw_in4 (List.mem_of_getElem? (i := 88) rfl)) rfl
set_option maxRecDepth 20000 in
theorem hC_X0_waits : Cond.code yX0_waits cX0_waits 3 (some .int) ∈ lw_g := lw_gg (lw_in4 (List.mem_of_getElem? (i := 89) rfl)) rfl
set_option maxRecDepth 20000 in
theorem hM_X0_26 : Cond.methodLink RX0 26 yX0_loops ∈ lw_g := lw_gg (lw_in4 (List.mem_of_getElem? (i := 90) rfl)) rfl
set_option maxRecDepth 20000 in
theorem hI_X0_loops : Cond.instanceMethod yX0_loops ∈ lw_g := lw_gg (lw_in4 (List.mem_of_getElem? (i := 92) rfl)) rfl
set_option maxRecDepth 20000 in
theorem hC_X0_loops : Cond.code yX0_loops cX0_loops 1 (some .int) ∈ lw_g := lw_gg (lw_in4 (List.mem_of_getElem? (i := 93) rfl)) rfl
set_option maxRecDepth 20000 in
theorem hM_L_137 : Cond.methodLink RL 137 yX11_draw ∈ lw_g := lw_gg (lw_in4 (List.mem_of_getElem? (i := 94) rfl)) rfl
set_option maxRecDepth 20000 in
theorem hI_X11_draw : Cond.instanceMethod yX11_draw ∈ lw_g := lw_gg (lw_in4 (List.mem_of_getElem? (i := 95) rfl)) rfl
set_option maxRecDepth 20000 in
theorem hS_X11_draw : Cond.selects RX11 yX11_draw yX11_draw ∈ lw_g := lw_gg (lw_in4 (List.mem_of_getElem? (i := 96) rfl)) rfl
set_option maxRecDepth 20000 in
theorem hC_X11_draw : Cond.code yX11_draw cX11_draw 2 (some .int) ∈ lw_g := lw_gg (lw_in4 (List.mem_of_getElem? (i := 97) rfl)) rfl
set_option maxRecDepth 20000 in
theorem hM_X11_295 : Cond.methodLink RX11 295 yX0_drawing ∈ lw_g := lw_gg (lw_in4 (List.mem_of_getElem? (i := 98) rfl)) rfl
set_option maxRecDepth 20000 in
theorem hI_X0_drawing : Cond.instanceMethod yX0_drawing ∈ lw_g := lw_gg (lw_in4 (List.mem_of_getElem? (i := 99) rfl)) rfl
set_option maxRecDepth 20000 in
theorem hS_X0_drawing : Cond.selects RX0 yX0_drawing yX0_drawing ∈ lw_g := lw_gg (lw_in4 (List.mem_of_getElem? (i := 100) rfl)) rfl
set_option maxRecDepth 20000 in
theorem hC_X0_drawing : Cond.code yX0_drawing cX0_drawing 2 (some .int) ∈ lw_g := lw_gg (lw_in4 (List.mem_of_getElem? (i := 101) rfl)) rfl
set_option maxRecDepth 20000 in
theorem hM_L_141 : Cond.methodLink RL 141 yX11_as ∈ lw_g := lw_gg (lw_in4 (List.mem_of_getElem? (i := 102) rfl)) rfl
set_option maxRecDepth 20000 in
theorem hI_X11_as : Cond.instanceMethod yX11_as ∈ lw_g := lw_gg (lw_in4 (List.mem_of_getElem? (i := 103) rfl)) rfl
set_option maxRecDepth 20000 in
theorem hS_X11_as : Cond.selects RX11 yX11_as yX11_as ∈ lw_g := lw_gg (lw_in4 (List.mem_of_getElem? (i := 104) rfl)) rfl
set_option maxRecDepth 20000 in
theorem hC_X11_as : Cond.code yX11_as cX11_as 3 (some .int) ∈ lw_g := lw_gg (lw_in4 (List.mem_of_getElem? (i := 105) rfl)) rfl
set_option maxRecDepth 20000 in
theorem hM_X11_298 : Cond.methodLink RX11 298 yX0_isA ∈ lw_g := lw_gg (lw_in4 (List.mem_of_getElem? (i := 106) rfl)) rfl
set_option maxRecDepth 20000 in
theorem hT_X0_isA : Cond.static yX0_isA ∈ lw_g := lw_gg (lw_in4 (List.mem_of_getElem? (i := 107) rfl)) rfl
set_option maxRecDepth 20000 in
theorem hC_X0_isA : Cond.code yX0_isA cX0_isA 2 (some .boolean) ∈ lw_g := lw_gg (lw_in4 (List.mem_of_getElem? (i := 108) rfl)) rfl
set_option maxRecDepth 20000 in
theorem hM_L_145 : Cond.methodLink RL 145 yX11_trace ∈ lw_g := lw_gg (lw_in4 (List.mem_of_getElem? (i := 109) rfl)) rfl
set_option maxRecDepth 20000 in
theorem hI_X11_trace : Cond.instanceMethod yX11_trace ∈ lw_g := lw_gg (lw_in4 (List.mem_of_getElem? (i := 110) rfl)) rfl
set_option maxRecDepth 20000 in
theorem hS_X11_trace : Cond.selects RX11 yX11_trace yX11_trace ∈ lw_g := lw_gg (lw_in4 (List.mem_of_getElem? (i := 111) rfl)) rfl
set_option maxRecDepth 20000 in
theorem hC_X11_trace : Cond.code yX11_trace cX11_trace 1 (some .int) ∈ lw_g := lw_gg (lw_in4 (List.mem_of_getElem? (i := 112) rfl)) rfl
set_option maxRecDepth 20000 in
theorem hM_L_149 : Cond.methodLink RL 149 yX11_fault ∈ lw_g := lw_gg (lw_in4 (List.mem_of_getElem? (i := 113) rfl)) rfl
set_option maxRecDepth 20000 in
theorem hI_X11_fault : Cond.instanceMethod yX11_fault ∈ lw_g := lw_gg (lw_in4 (List.mem_of_getElem? (i := 114) rfl)) rfl
set_option maxRecDepth 20000 in
theorem hS_X11_fault : Cond.selects RX11 yX11_fault yX11_fault ∈ lw_g := lw_gg (lw_in4 (List.mem_of_getElem? (i := 115) rfl)) rfl
set_option maxRecDepth 20000 in
theorem hC_X11_fault : Cond.code yX11_fault cX11_fault 1 (some .int) ∈ lw_g := lw_gg (lw_in4 (List.mem_of_getElem? (i := 116) rfl)) rfl
set_option maxRecDepth 20000 in
theorem hL_L_10 : Cond.classLink RL 10 RX12 ∈ lw_g := lw_gg (lw_in4 (List.mem_of_getElem? (i := 117) rfl)) rfl
set_option maxRecDepth 20000 in
theorem hB_X12 : Cond.instantiable RX12 52 ∈ lw_g := lw_gg (lw_in4 (List.mem_of_getElem? (i := 118) rfl)) rfl
set_option maxRecDepth 20000 in
theorem hM_L_12 : Cond.methodLink RL 12 yX12_init ∈ lw_g := lw_gg (lw_in4 (List.mem_of_getElem? (i := 119) rfl)) rfl
set_option maxRecDepth 20000 in
theorem hI_X12_init : Cond.instanceMethod yX12_init ∈ lw_g := lw_gg (lw_in4 (List.mem_of_getElem? (i := 120) rfl)) rfl
set_option maxRecDepth 20000 in
theorem hC_X12_init : Cond.code yX12_init cX12_init 1 none ∈ lw_g := lw_gg (lw_in4 (List.mem_of_getElem? (i := 121) rfl)) rfl
set_option maxRecDepth 20000 in
theorem hM_X12_1 : Cond.methodLink RX12 1 objectInit ∈ lw_g := lw_gg (lw_in4 (List.mem_of_getElem? (i := 122) rfl)) rfl
set_option maxRecDepth 20000 in
theorem hF_X12_103 : Cond.fieldLink RX12 103 "EngineCellModel" "fault" "I" ∈ lw_g := lw_gg (lw_in4 (List.mem_of_getElem? (i := 123) rfl)) rfl
set_option maxRecDepth 20000 in
theorem hF_X12_296 : Cond.fieldLink RX12 296 "EngineCellModel" "trace" "I" ∈ lw_g := lw_gg (lw_in4 (List.mem_of_getElem? (i := 124) rfl)) rfl
set_option maxRecDepth 20000 in
theorem hF_X12_7 : Cond.fieldLink RX12 7 "EngineCellModel" "map" "[I" ∈ lw_g := lw_gg (lw_in4 (List.mem_of_getElem? (i := 125) rfl)) rfl
set_option maxRecDepth 20000 in
theorem hF_X12_13 : Cond.fieldLink RX12 13 "EngineCellModel" "lag" "I" ∈ lw_g := lw_gg (lw_in4 (List.mem_of_getElem? (i := 126) rfl)) rfl
set_option maxRecDepth 20000 in
theorem hF_X12_118 : Cond.fieldLink RX12 118 "EngineCellModel" "room" "I" ∈ lw_g := lw_gg (lw_in4 (List.mem_of_getElem? (i := 127) rfl)) rfl
set_option maxRecDepth 20000 in
theorem hF_X12_190 : Cond.fieldLink RX12 190 "EngineCellModel" "tick" "I" ∈ lw_g := lw_gg (lw_in4 (List.mem_of_getElem? (i := 128) rfl)) rfl
set_option maxRecDepth 20000 in
theorem hF_X12_164 : Cond.fieldLink RX12 164 "EngineCellModel" "at" "I" ∈ lw_g := lw_gg (lw_in4 (List.mem_of_getElem? (i := 129) rfl)) rfl
set_option maxRecDepth 20000 in
theorem hF_X12_167 : Cond.fieldLink RX12 167 "EngineCellModel" "inStep" "I" ∈ lw_g := lw_gg (lw_in4 (List.mem_of_getElem? (i := 130) rfl)) rfl
set_option maxRecDepth 20000 in
theorem hF_X12_196 : Cond.fieldLink RX12 196 "EngineCellModel" "beginSpeed" "I" ∈ lw_g := lw_gg (lw_in4 (List.mem_of_getElem? (i := 131) rfl)) rfl
set_option maxRecDepth 20000 in
theorem hF_X12_202 : Cond.fieldLink RX12 202 "EngineCellModel" "beginPedal" "I" ∈ lw_g := lw_gg (lw_in4 (List.mem_of_getElem? (i := 132) rfl)) rfl
set_option maxRecDepth 20000 in
theorem hF_X12_17 : Cond.fieldLink RX12 17 "EngineCellModel" "kind" "I" ∈ lw_g := lw_gg (lw_in4 (List.mem_of_getElem? (i := 133) rfl)) rfl
set_option maxRecDepth 20000 in
theorem hF_X12_170 : Cond.fieldLink RX12 170 "EngineCellModel" "acts" "I" ∈ lw_g := lw_gg (lw_in4 (List.mem_of_getElem? (i := 134) rfl)) rfl
set_option maxRecDepth 20000 in
theorem hF_X12_20 : Cond.fieldLink RX12 20 "EngineCellModel" "was" "[I" ∈ lw_g := lw_gg (lw_in4 (List.mem_of_getElem? (i := 135) rfl)) rfl
set_option maxRecDepth 20000 in
theorem hF_X12_139 : Cond.fieldLink RX12 139 "EngineCellModel" "steps" "I" ∈ lw_g := lw_gg (lw_in4 (List.mem_of_getElem? (i := 136) rfl)) rfl
set_option maxRecDepth 20000 in
theorem hF_X12_23 : Cond.fieldLink RX12 23 "EngineCellModel" "stepKind" "[I" ∈ lw_g := lw_gg (lw_in4 (List.mem_of_getElem? (i := 137) rfl)) rfl
set_option maxRecDepth 20000 in
theorem hF_X12_26 : Cond.fieldLink RX12 26 "EngineCellModel" "stepA" "[I" ∈ lw_g := lw_gg (lw_in4 (List.mem_of_getElem? (i := 138) rfl)) rfl
set_option maxRecDepth 20000 in
theorem hF_X12_29 : Cond.fieldLink RX12 29 "EngineCellModel" "stepB" "[I" ∈ lw_g := lw_gg (lw_in4 (List.mem_of_getElem? (i := 139) rfl)) rfl
set_option maxRecDepth 20000 in
theorem hF_X12_32 : Cond.fieldLink RX12 32 "EngineCellModel" "stepC" "[I" ∈ lw_g := lw_gg (lw_in4 (List.mem_of_getElem? (i := 140) rfl)) rfl
set_option maxRecDepth 20000 in
theorem hF_X12_35 : Cond.fieldLink RX12 35 "EngineCellModel" "led" "[I" ∈ lw_g := lw_gg (lw_in4 (List.mem_of_getElem? (i := 141) rfl)) rfl
set_option maxRecDepth 20000 in
theorem hF_X12_38 : Cond.fieldLink RX12 38 "EngineCellModel" "lanes" "[I" ∈ lw_g := lw_gg (lw_in4 (List.mem_of_getElem? (i := 142) rfl)) rfl
set_option maxRecDepth 20000 in
theorem hF_X12_41 : Cond.fieldLink RX12 41 "EngineCellModel" "sheetLong" "[I" ∈ lw_g := lw_gg (lw_in4 (List.mem_of_getElem? (i := 143) rfl)) rfl
set_option maxRecDepth 20000 in
theorem hF_X12_44 : Cond.fieldLink RX12 44 "EngineCellModel" "cells" "[I" ∈ lw_g := lw_gg (lw_in4 (List.mem_of_getElem? (i := 144) rfl)) rfl
set_option maxRecDepth 20000 in
theorem hF_X12_187 : Cond.fieldLink RX12 187 "EngineCellModel" "marks" "I" ∈ lw_g := lw_gg (lw_in4 (List.mem_of_getElem? (i := 145) rfl)) rfl
set_option maxRecDepth 20000 in
theorem hF_X12_47 : Cond.fieldLink RX12 47 "EngineCellModel" "markTick" "[I" ∈ lw_g := lw_gg (lw_in4 (List.mem_of_getElem? (i := 146) rfl)) rfl
set_option maxRecDepth 20000 in
theorem hF_X12_193 : Cond.fieldLink RX12 193 "EngineCellModel" "wantedSpeed" "I" ∈ lw_g := lw_gg (lw_in4 (List.mem_of_getElem? (i := 147) rfl)) rfl
set_option maxRecDepth 20000 in
theorem hF_X12_199 : Cond.fieldLink RX12 199 "EngineCellModel" "pedal" "I" ∈ lw_g := lw_gg (lw_in4 (List.mem_of_getElem? (i := 148) rfl)) rfl
set_option maxRecDepth 20000 in
theorem hF_X12_205 : Cond.fieldLink RX12 205 "EngineCellModel" "channels" "I" ∈ lw_g := lw_gg (lw_in4 (List.mem_of_getElem? (i := 149) rfl)) rfl
set_option maxRecDepth 20000 in
theorem hF_X12_50 : Cond.fieldLink RX12 50 "EngineCellModel" "source" "[I" ∈ lw_g := lw_gg (lw_in4 (List.mem_of_getElem? (i := 150) rfl)) rfl
set_option maxRecDepth 20000 in
theorem hF_X12_53 : Cond.fieldLink RX12 53 "EngineCellModel" "rate" "[I" ∈ lw_g := lw_gg (lw_in4 (List.mem_of_getElem? (i := 151) rfl)) rfl
set_option maxRecDepth 20000 in
theorem hF_X12_56 : Cond.fieldLink RX12 56 "EngineCellModel" "delay" "[I" ∈ lw_g := lw_gg (lw_in4 (List.mem_of_getElem? (i := 152) rfl)) rfl
set_option maxRecDepth 20000 in
theorem hF_X12_59 : Cond.fieldLink RX12 59 "EngineCellModel" "low" "[I" ∈ lw_g := lw_gg (lw_in4 (List.mem_of_getElem? (i := 153) rfl)) rfl
set_option maxRecDepth 20000 in
theorem hF_X12_62 : Cond.fieldLink RX12 62 "EngineCellModel" "high" "[I" ∈ lw_g := lw_gg (lw_in4 (List.mem_of_getElem? (i := 154) rfl)) rfl
set_option maxRecDepth 20000 in
theorem hF_X12_65 : Cond.fieldLink RX12 65 "EngineCellModel" "hasLimit" "[Z" ∈ lw_g := lw_gg (lw_in4 (List.mem_of_getElem? (i := 155) rfl)) rfl
set_option maxRecDepth 20000 in
theorem hF_X12_69 : Cond.fieldLink RX12 69 "EngineCellModel" "limits" "[I" ∈ lw_g := lw_gg (lw_in4 (List.mem_of_getElem? (i := 156) rfl)) rfl
set_option maxRecDepth 20000 in
theorem hF_X12_240 : Cond.fieldLink RX12 240 "EngineCellModel" "losses" "I" ∈ lw_g := lw_gg (lw_in4 (List.mem_of_getElem? (i := 157) rfl)) rfl
set_option maxRecDepth 20000 in
theorem hF_X12_72 : Cond.fieldLink RX12 72 "EngineCellModel" "lossOf" "[I" ∈ lw_g := lw_gg (lw_in4 (List.mem_of_getElem? (i := 158) rfl)) rfl
set_option maxRecDepth 20000 in
theorem hF_X12_75 : Cond.fieldLink RX12 75 "EngineCellModel" "lossFrom" "[I" ∈ lw_g := lw_gg (lw_in4 (List.mem_of_getElem? (i := 159) rfl)) rfl
set_option maxRecDepth 20000 in
theorem hF_X12_78 : Cond.fieldLink RX12 78 "EngineCellModel" "lossTo" "[I" ∈ lw_g := lw_gg (lw_in4 (List.mem_of_getElem? (i := 160) rfl)) rfl
set_option maxRecDepth 20000 in
theorem hF_X12_222 : Cond.fieldLink RX12 222 "EngineCellModel" "corrections" "I" ∈ lw_g := lw_gg (lw_in4 (List.mem_of_getElem? (i := 161) rfl)) rfl
set_option maxRecDepth 20000 in
theorem hF_X12_81 : Cond.fieldLink RX12 81 "EngineCellModel" "correctOf" "[I" ∈ lw_g := lw_gg (lw_in4 (List.mem_of_getElem? (i := 162) rfl)) rfl
set_option maxRecDepth 20000 in
theorem hF_X12_84 : Cond.fieldLink RX12 84 "EngineCellModel" "correctFrom" "[I" ∈ lw_g := lw_gg (lw_in4 (List.mem_of_getElem? (i := 163) rfl)) rfl
set_option maxRecDepth 20000 in
theorem hF_X12_87 : Cond.fieldLink RX12 87 "EngineCellModel" "correctBy" "[I" ∈ lw_g := lw_gg (lw_in4 (List.mem_of_getElem? (i := 164) rfl)) rfl
set_option maxRecDepth 20000 in
theorem hF_X12_90 : Cond.fieldLink RX12 90 "EngineCellModel" "correctMore" "[I" ∈ lw_g := lw_gg (lw_in4 (List.mem_of_getElem? (i := 165) rfl)) rfl
set_option maxRecDepth 20000 in
theorem hF_X12_93 : Cond.fieldLink RX12 93 "EngineCellModel" "numbers" "[J" ∈ lw_g := lw_gg (lw_in4 (List.mem_of_getElem? (i := 166) rfl)) rfl
set_option maxRecDepth 20000 in
theorem hF_X12_260 : Cond.fieldLink RX12 260 "EngineCellModel" "others" "I" ∈ lw_g := lw_gg (lw_in4 (List.mem_of_getElem? (i := 167) rfl)) rfl
set_option maxRecDepth 20000 in
theorem hF_X12_97 : Cond.fieldLink RX12 97 "EngineCellModel" "otherAt" "[I" ∈ lw_g := lw_gg (lw_in4 (List.mem_of_getElem? (i := 168) rfl)) rfl
set_option maxRecDepth 20000 in
theorem hF_X12_100 : Cond.fieldLink RX12 100 "EngineCellModel" "kept" "[J" ∈ lw_g := lw_gg (lw_in4 (List.mem_of_getElem? (i := 169) rfl)) rfl
set_option maxRecDepth 20000 in
theorem hF_X12_263 : Cond.fieldLink RX12 263 "EngineCellModel" "lawN" "J" ∈ lw_g := lw_gg (lw_in4 (List.mem_of_getElem? (i := 170) rfl)) rfl
set_option maxRecDepth 20000 in
theorem hF_X12_273 : Cond.fieldLink RX12 273 "EngineCellModel" "lawA" "J" ∈ lw_g := lw_gg (lw_in4 (List.mem_of_getElem? (i := 171) rfl)) rfl
set_option maxRecDepth 20000 in
theorem hF_X12_276 : Cond.fieldLink RX12 276 "EngineCellModel" "lawB" "J" ∈ lw_g := lw_gg (lw_in4 (List.mem_of_getElem? (i := 172) rfl)) rfl
set_option maxRecDepth 20000 in
theorem hF_X12_267 : Cond.fieldLink RX12 267 "EngineCellModel" "lawSum" "J" ∈ lw_g := lw_gg (lw_in4 (List.mem_of_getElem? (i := 173) rfl)) rfl
set_option maxRecDepth 20000 in
theorem hF_X12_270 : Cond.fieldLink RX12 270 "EngineCellModel" "lawMost" "J" ∈ lw_g := lw_gg (lw_in4 (List.mem_of_getElem? (i := 174) rfl)) rfl
set_option maxRecDepth 20000 in
theorem hA_boolean : Cond.arrayClass .boolean ∈ lw_g := lw_gg (lw_in5 (List.mem_of_getElem? (i := 40) rfl)) rfl
set_option maxRecDepth 20000 in
theorem hM_L_17 : Cond.methodLink RL 17 yX12_map ∈ lw_g := lw_gg (lw_in5 (List.mem_of_getElem? (i := 41) rfl)) rfl
set_option maxRecDepth 20000 in
theorem hI_X12_map : Cond.instanceMethod yX12_map ∈ lw_g := lw_gg (lw_in5 (List.mem_of_getElem? (i := 42) rfl)) rfl
set_option maxRecDepth 20000 in
theorem hS_X12_map : Cond.selects RX12 yX12_map yX12_map ∈ lw_g := lw_gg (lw_in5 (List.mem_of_getElem? (i := 43) rfl)) rfl
set_option maxRecDepth 20000 in
theorem hC_X12_map : Cond.code yX12_map cX12_map 4 (some .int) ∈ lw_g := lw_gg (lw_in5 (List.mem_of_getElem? (i := 44) rfl)) rfl
set_option maxRecDepth 20000 in
theorem hK_X12_108 : Cond.constantLong RX12 108 (24) ∈ lw_g := lw_gg (lw_in5 (List.mem_of_getElem? (i := 45) rfl)) rfl
set_option maxRecDepth 20000 in
theorem hM_X12_110 : Cond.methodLink RX12 110 yX12_within ∈ lw_g := lw_gg (lw_in5 (List.mem_of_getElem? (i := 46) rfl)) rfl
set_option maxRecDepth 20000 in
theorem hT_X12_within : Cond.static yX12_within ∈ lw_g := lw_gg (lw_in5 (List.mem_of_getElem? (i := 47) rfl)) rfl
set_option maxRecDepth 20000 in
theorem hC_X12_within : Cond.code yX12_within cX12_within 6 (some .boolean) ∈ lw_g := lw_gg (lw_in5 (List.mem_of_getElem? (i := 48) rfl)) rfl
set_option maxRecDepth 20000 in
theorem hK_X12_114 : Cond.constantLong RX12 114 (-500) ∈ lw_g := lw_gg (lw_in5 (List.mem_of_getElem? (i := 49) rfl)) rfl
set_option maxRecDepth 20000 in
theorem hK_X12_116 : Cond.constantLong RX12 116 (1000) ∈ lw_g := lw_gg (lw_in5 (List.mem_of_getElem? (i := 50) rfl)) rfl
set_option maxRecDepth 20000 in
theorem hM_L_22 : Cond.methodLink RL 22 yX12_torque ∈ lw_g := lw_gg (lw_in5 (List.mem_of_getElem? (i := 51) rfl)) rfl
set_option maxRecDepth 20000 in
theorem hI_X12_torque : Cond.instanceMethod yX12_torque ∈ lw_g := lw_gg (lw_in5 (List.mem_of_getElem? (i := 52) rfl)) rfl
set_option maxRecDepth 20000 in
theorem hS_X12_torque : Cond.selects RX12 yX12_torque yX12_torque ∈ lw_g := lw_gg (lw_in5 (List.mem_of_getElem? (i := 53) rfl)) rfl
set_option maxRecDepth 20000 in
theorem hC_X12_torque : Cond.code yX12_torque cX12_torque 3 (some .long) ∈ lw_g := lw_gg (lw_in5 (List.mem_of_getElem? (i := 54) rfl)) rfl
set_option maxRecDepth 20000 in
theorem hK_X12_127 : Cond.constantLong RX12 127 (8000) ∈ lw_g := lw_gg (lw_in5 (List.mem_of_getElem? (i := 55) rfl)) rfl
set_option maxRecDepth 20000 in
theorem hM_X12_129 : Cond.methodLink RX12 129 yX12_torqueAt ∈ lw_g := lw_gg (lw_in5 (List.mem_of_getElem? (i := 56) rfl)) rfl
set_option maxRecDepth 20000 in
theorem hI_X12_torqueAt : Cond.instanceMethod yX12_torqueAt ∈ lw_g := lw_gg (lw_in5 (List.mem_of_getElem? (i := 58) rfl)) rfl
set_option maxRecDepth 20000 in
theorem hC_X12_torqueAt : Cond.code yX12_torqueAt cX12_torqueAt 11 (some .int) ∈ lw_g := lw_gg (lw_in5 (List.mem_of_getElem? (i := 59) rfl)) rfl
set_option maxRecDepth 20000 in
theorem hK_X12_121 : Cond.constantLong RX12 121 (2000) ∈ lw_g := lw_gg (lw_in5 (List.mem_of_getElem? (i := 60) rfl)) rfl
set_option maxRecDepth 20000 in
theorem hK_X12_123 : Cond.constantLong RX12 123 (250) ∈ lw_g := lw_gg (lw_in5 (List.mem_of_getElem? (i := 61) rfl)) rfl
set_option maxRecDepth 20000 in
theorem hK_X12_125 : Cond.constantLong RX12 125 (500000) ∈ lw_g := lw_gg (lw_in5 (List.mem_of_getElem? (i := 62) rfl)) rfl
set_option maxRecDepth 20000 in
theorem hK_X12_106 : Cond.constantLong RX12 106 (-9223372036854775808) ∈ lw_g := lw_gg (lw_in5 (List.mem_of_getElem? (i := 63) rfl)) rfl
set_option maxRecDepth 20000 in
theorem hM_L_27 : Cond.methodLink RL 27 yX12_lag ∈ lw_g := lw_gg (lw_in5 (List.mem_of_getElem? (i := 64) rfl)) rfl
set_option maxRecDepth 20000 in
theorem hI_X12_lag : Cond.instanceMethod yX12_lag ∈ lw_g := lw_gg (lw_in5 (List.mem_of_getElem? (i := 65) rfl)) rfl
set_option maxRecDepth 20000 in
theorem hS_X12_lag : Cond.selects RX12 yX12_lag yX12_lag ∈ lw_g := lw_gg (lw_in5 (List.mem_of_getElem? (i := 66) rfl)) rfl
set_option maxRecDepth 20000 in
theorem hC_X12_lag : Cond.code yX12_lag cX12_lag 3 (some .int) ∈ lw_g := lw_gg (lw_in5 (List.mem_of_getElem? (i := 67) rfl)) rfl
set_option maxRecDepth 20000 in
theorem hK_X12_133 : Cond.constantLong RX12 133 (20) ∈ lw_g := lw_gg (lw_in5 (List.mem_of_getElem? (i := 68) rfl)) rfl
set_option maxRecDepth 20000 in
theorem hM_L_32 : Cond.methodLink RL 32 yX12_step ∈ lw_g := lw_gg (lw_in5 (List.mem_of_getElem? (i := 69) rfl)) rfl
set_option maxRecDepth 20000 in
theorem hI_X12_step : Cond.instanceMethod yX12_step ∈ lw_g := lw_gg (lw_in5 (List.mem_of_getElem? (i := 70) rfl)) rfl
set_option maxRecDepth 20000 in
theorem hS_X12_step : Cond.selects RX12 yX12_step yX12_step ∈ lw_g := lw_gg (lw_in5 (List.mem_of_getElem? (i := 71) rfl)) rfl
set_option maxRecDepth 20000 in
theorem hC_X12_step : Cond.code yX12_step cX12_step 5 (some .int) ∈ lw_g := lw_gg (lw_in5 (List.mem_of_getElem? (i := 72) rfl)) rfl
set_option maxRecDepth 20000 in
theorem hM_X12_142 : Cond.methodLink RX12 142 yX12_mayStand ∈ lw_g := lw_gg (lw_in5 (List.mem_of_getElem? (i := 73) rfl)) rfl
set_option maxRecDepth 20000 in
theorem hT_X12_mayStand : Cond.static yX12_mayStand ∈ lw_g := lw_gg (lw_in5 (List.mem_of_getElem? (i := 74) rfl)) rfl
set_option maxRecDepth 20000 in
theorem hC_X12_mayStand : Cond.code yX12_mayStand cX12_mayStand 5 (some .boolean) ∈ lw_g := lw_gg (lw_in5 (List.mem_of_getElem? (i := 75) rfl)) rfl
set_option maxRecDepth 20000 in
theorem hK_X12_135 : Cond.constantLong RX12 135 (500) ∈ lw_g := lw_gg (lw_in5 (List.mem_of_getElem? (i := 76) rfl)) rfl
set_option maxRecDepth 20000 in
theorem hK_X12_137 : Cond.constantLong RX12 137 (100) ∈ lw_g := lw_gg (lw_in5 (List.mem_of_getElem? (i := 77) rfl)) rfl
set_option maxRecDepth 20000 in
theorem hM_X12_146 : Cond.methodLink RX12 146 yX12_addStep ∈ lw_g := lw_gg (lw_in5 (List.mem_of_getElem? (i := 78) rfl)) rfl
set_option maxRecDepth 20000 in
theorem hI_X12_addStep : Cond.instanceMethod yX12_addStep ∈ lw_g := lw_gg (lw_in5 (List.mem_of_getElem? (i := 80) rfl)) rfl
set_option maxRecDepth 20000 in
theorem hC_X12_addStep : Cond.code yX12_addStep cX12_addStep 5 none ∈ lw_g := lw_gg (lw_in5 (List.mem_of_getElem? (i := 81) rfl)) rfl
set_option maxRecDepth 20000 in
theorem hM_L_36 : Cond.methodLink RL 36 yX12_load ∈ lw_g := lw_gg (lw_in5 (List.mem_of_getElem? (i := 82) rfl)) rfl
set_option maxRecDepth 20000 in
theorem hI_X12_load : Cond.instanceMethod yX12_load ∈ lw_g := lw_gg (lw_in5 (List.mem_of_getElem? (i := 83) rfl)) rfl
set_option maxRecDepth 20000 in
theorem hS_X12_load : Cond.selects RX12 yX12_load yX12_load ∈ lw_g := lw_gg (lw_in5 (List.mem_of_getElem? (i := 84) rfl)) rfl
set_option maxRecDepth 20000 in
theorem hC_X12_load : Cond.code yX12_load cX12_load 7 (some .int) ∈ lw_g := lw_gg (lw_in5 (List.mem_of_getElem? (i := 85) rfl)) rfl
set_option maxRecDepth 20000 in
theorem hK_X12_150 : Cond.constantLong RX12 150 (3) ∈ lw_g := lw_gg (lw_in5 (List.mem_of_getElem? (i := 86) rfl)) rfl
set_option maxRecDepth 20000 in
theorem hK_X12_152 : Cond.constantLong RX12 152 (2) ∈ lw_g := lw_gg (lw_in5 (List.mem_of_getElem? (i := 87) rfl)) rfl
set_option maxRecDepth 20000 in
theorem hM_X12_154 : Cond.methodLink RX12 154 yX12_fails ∈ lw_g := lw_gg (lw_in5 (List.mem_of_getElem? (i := 88) rfl)) rfl
set_option maxRecDepth 20000 in
theorem hI_X12_fails : Cond.instanceMethod yX12_fails ∈ lw_g := lw_gg (lw_in5 (List.mem_of_getElem? (i := 90) rfl)) rfl
set_option maxRecDepth 20000 in
theorem hC_X12_fails : Cond.code yX12_fails cX12_fails 2 (some .int) ∈ lw_g := lw_gg (lw_in5 (List.mem_of_getElem? (i := 91) rfl)) rfl
set_option maxRecDepth 20000 in
theorem hK_X12_158 : Cond.constantLong RX12 158 (4) ∈ lw_g := lw_gg (lw_in5 (List.mem_of_getElem? (i := 92) rfl)) rfl
set_option maxRecDepth 20000 in
theorem hM_L_41 : Cond.methodLink RL 41 yX12_clear ∈ lw_g := lw_gg (lw_in5 (List.mem_of_getElem? (i := 93) rfl)) rfl
set_option maxRecDepth 20000 in
theorem hI_X12_clear : Cond.instanceMethod yX12_clear ∈ lw_g := lw_gg (lw_in5 (List.mem_of_getElem? (i := 94) rfl)) rfl
set_option maxRecDepth 20000 in
theorem hS_X12_clear : Cond.selects RX12 yX12_clear yX12_clear ∈ lw_g := lw_gg (lw_in5 (List.mem_of_getElem? (i := 95) rfl)) rfl
set_option maxRecDepth 20000 in
theorem hC_X12_clear : Cond.code yX12_clear cX12_clear 2 (some .int) ∈ lw_g := lw_gg (lw_in5 (List.mem_of_getElem? (i := 96) rfl)) rfl
set_option maxRecDepth 20000 in
theorem hM_L_45 : Cond.methodLink RL 45 yX12_stepped ∈ lw_g := lw_gg (lw_in5 (List.mem_of_getElem? (i := 97) rfl)) rfl
set_option maxRecDepth 20000 in
theorem hI_X12_stepped : Cond.instanceMethod yX12_stepped ∈ lw_g := lw_gg (lw_in5 (List.mem_of_getElem? (i := 98) rfl)) rfl
set_option maxRecDepth 20000 in
theorem hS_X12_stepped : Cond.selects RX12 yX12_stepped yX12_stepped ∈ lw_g := lw_gg (lw_in5 (List.mem_of_getElem? (i := 99) rfl)) rfl
set_option maxRecDepth 20000 in
theorem hC_X12_stepped : Cond.code yX12_stepped cX12_stepped 3 (some .int) ∈ lw_g := lw_gg (lw_in5 (List.mem_of_getElem? (i := 100) rfl)) rfl
set_option maxRecDepth 20000 in
theorem hM_X12_160 : Cond.methodLink RX12 160 yX12_isStep ∈ lw_g := lw_gg (lw_in5 (List.mem_of_getElem? (i := 101) rfl)) rfl
set_option maxRecDepth 20000 in
theorem hI_X12_isStep : Cond.instanceMethod yX12_isStep ∈ lw_g := lw_gg (lw_in5 (List.mem_of_getElem? (i := 103) rfl)) rfl
set_option maxRecDepth 20000 in
theorem hC_X12_isStep : Cond.code yX12_isStep cX12_isStep 2 (some .boolean) ∈ lw_g := lw_gg (lw_in5 (List.mem_of_getElem? (i := 104) rfl)) rfl
set_option maxRecDepth 20000 in
theorem hM_L_49 : Cond.methodLink RL 49 yX12_start ∈ lw_g := lw_gg (lw_in5 (List.mem_of_getElem? (i := 105) rfl)) rfl
set_option maxRecDepth 20000 in
theorem hI_X12_start : Cond.instanceMethod yX12_start ∈ lw_g := lw_gg (lw_in5 (List.mem_of_getElem? (i := 106) rfl)) rfl
set_option maxRecDepth 20000 in
theorem hS_X12_start : Cond.selects RX12 yX12_start yX12_start ∈ lw_g := lw_gg (lw_in5 (List.mem_of_getElem? (i := 107) rfl)) rfl
set_option maxRecDepth 20000 in
theorem hC_X12_start : Cond.code yX12_start cX12_start 2 (some .int) ∈ lw_g := lw_gg (lw_in5 (List.mem_of_getElem? (i := 108) rfl)) rfl
set_option maxRecDepth 20000 in
theorem hM_L_53 : Cond.methodLink RL 53 yX12_tick ∈ lw_g := lw_gg (lw_in5 (List.mem_of_getElem? (i := 109) rfl)) rfl
set_option maxRecDepth 20000 in
theorem hI_X12_tick : Cond.instanceMethod yX12_tick ∈ lw_g := lw_gg (lw_in5 (List.mem_of_getElem? (i := 110) rfl)) rfl
set_option maxRecDepth 20000 in
theorem hS_X12_tick : Cond.selects RX12 yX12_tick yX12_tick ∈ lw_g := lw_gg (lw_in5 (List.mem_of_getElem? (i := 111) rfl)) rfl
set_option maxRecDepth 20000 in
theorem hC_X12_tick : Cond.code yX12_tick cX12_tick 3 (some .int) ∈ lw_g := lw_gg (lw_in5 (List.mem_of_getElem? (i := 112) rfl)) rfl
set_option maxRecDepth 20000 in
theorem hM_X12_219 : Cond.methodLink RX12 219 yX12_turn ∈ lw_g := lw_gg (lw_in5 (List.mem_of_getElem? (i := 113) rfl)) rfl
set_option maxRecDepth 20000 in
theorem hI_X12_turn : Cond.instanceMethod yX12_turn ∈ lw_g := lw_gg (lw_in5 (List.mem_of_getElem? (i := 115) rfl)) rfl
set_option maxRecDepth 20000 in
theorem hC_X12_turn : Cond.code yX12_turn cX12_turn 11 none ∈ lw_g := lw_gg (lw_in5 (List.mem_of_getElem? (i := 116) rfl)) rfl
set_option maxRecDepth 20000 in
theorem hM_X12_216 : Cond.methodLink RX12 216 yX12_goOn ∈ lw_g := lw_gg (lw_in5 (List.mem_of_getElem? (i := 117) rfl)) rfl
set_option maxRecDepth 20000 in
theorem hI_X12_goOn : Cond.instanceMethod yX12_goOn ∈ lw_g := lw_gg (lw_in5 (List.mem_of_getElem? (i := 119) rfl)) rfl
set_option maxRecDepth 20000 in
theorem hC_X12_goOn : Cond.code yX12_goOn cX12_goOn 2 none ∈ lw_g := lw_gg (lw_in5 (List.mem_of_getElem? (i := 120) rfl)) rfl
set_option maxRecDepth 20000 in
theorem hM_X12_173 : Cond.methodLink RX12 173 yX12_stopBy ∈ lw_g := lw_gg (lw_in5 (List.mem_of_getElem? (i := 121) rfl)) rfl
set_option maxRecDepth 20000 in
theorem hI_X12_stopBy : Cond.instanceMethod yX12_stopBy ∈ lw_g := lw_gg (lw_in5 (List.mem_of_getElem? (i := 123) rfl)) rfl
set_option maxRecDepth 20000 in
theorem hC_X12_stopBy : Cond.code yX12_stopBy cX12_stopBy 2 none ∈ lw_g := lw_gg (lw_in5 (List.mem_of_getElem? (i := 124) rfl)) rfl
set_option maxRecDepth 20000 in
theorem hM_X12_177 : Cond.methodLink RX12 177 yX12_passes ∈ lw_g := lw_gg (lw_in5 (List.mem_of_getElem? (i := 125) rfl)) rfl
set_option maxRecDepth 20000 in
theorem hI_X12_passes : Cond.instanceMethod yX12_passes ∈ lw_g := lw_gg (lw_in5 (List.mem_of_getElem? (i := 127) rfl)) rfl
set_option maxRecDepth 20000 in
theorem hC_X12_passes : Cond.code yX12_passes cX12_passes 2 none ∈ lw_g := lw_gg (lw_in5 (List.mem_of_getElem? (i := 128) rfl)) rfl
set_option maxRecDepth 20000 in
theorem hM_X12_180 : Cond.methodLink RX12 180 yX12_ramp ∈ lw_g := lw_gg (lw_in5 (List.mem_of_getElem? (i := 129) rfl)) rfl
set_option maxRecDepth 20000 in
theorem hI_X12_ramp : Cond.instanceMethod yX12_ramp ∈ lw_g := lw_gg (lw_in5 (List.mem_of_getElem? (i := 131) rfl)) rfl
set_option maxRecDepth 20000 in
theorem hC_X12_ramp : Cond.code yX12_ramp cX12_ramp 2 none ∈ lw_g := lw_gg (lw_in5 (List.mem_of_getElem? (i := 132) rfl)) rfl
set_option maxRecDepth 20000 in
theorem hM_X12_183 : Cond.methodLink RX12 183 yX12_waits ∈ lw_g := lw_gg (lw_in5 (List.mem_of_getElem? (i := 133) rfl)) rfl
set_option maxRecDepth 20000 in
theorem hI_X12_waits : Cond.instanceMethod yX12_waits ∈ lw_g := lw_gg (lw_in5 (List.mem_of_getElem? (i := 135) rfl)) rfl
set_option maxRecDepth 20000 in
theorem hC_X12_waits : Cond.code yX12_waits cX12_waits 3 (some .boolean) ∈ lw_g := lw_gg (lw_in5 (List.mem_of_getElem? (i := 136) rfl)) rfl
set_option maxRecDepth 20000 in
theorem hM_X12_208 : Cond.methodLink RX12 208 yX12_isLost ∈ lw_g := lw_gg (lw_in5 (List.mem_of_getElem? (i := 137) rfl)) rfl
set_option maxRecDepth 20000 in
theorem hI_X12_isLost : Cond.instanceMethod yX12_isLost ∈ lw_g := lw_gg (lw_in5 (List.mem_of_getElem? (i := 139) rfl)) rfl
set_option maxRecDepth 20000 in
theorem hC_X12_isLost : Cond.code yX12_isLost cX12_isLost 5 (some .boolean) ∈ lw_g := lw_gg (lw_in5 (List.mem_of_getElem? (i := 140) rfl)) rfl
set_option maxRecDepth 20000 in
theorem hM_X12_212 : Cond.methodLink RX12 212 yX12_corrected ∈ lw_g := lw_gg (lw_in5 (List.mem_of_getElem? (i := 141) rfl)) rfl
set_option maxRecDepth 20000 in
theorem hI_X12_corrected : Cond.instanceMethod yX12_corrected ∈ lw_g := lw_gg (lw_in5 (List.mem_of_getElem? (i := 143) rfl)) rfl
set_option maxRecDepth 20000 in
theorem hC_X12_corrected : Cond.code yX12_corrected cX12_corrected 6 (some .long) ∈ lw_g := lw_gg (lw_in5 (List.mem_of_getElem? (i := 144) rfl)) rfl
set_option maxRecDepth 20000 in
theorem hM_X12_243 : Cond.methodLink RX12 243 yX12_raw ∈ lw_g := lw_gg (lw_in5 (List.mem_of_getElem? (i := 145) rfl)) rfl
set_option maxRecDepth 20000 in
theorem hI_X12_raw : Cond.instanceMethod yX12_raw ∈ lw_g := lw_gg (lw_in5 (List.mem_of_getElem? (i := 147) rfl)) rfl
set_option maxRecDepth 20000 in
theorem hC_X12_raw : Cond.code yX12_raw cX12_raw 3 (some .int) ∈ lw_g := lw_gg (lw_in5 (List.mem_of_getElem? (i := 148) rfl)) rfl
set_option maxRecDepth 20000 in
theorem hM_L_57 : Cond.methodLink RL 57 yX12_stop ∈ lw_g := lw_gg (lw_in5 (List.mem_of_getElem? (i := 149) rfl)) rfl
set_option maxRecDepth 20000 in
theorem hI_X12_stop : Cond.instanceMethod yX12_stop ∈ lw_g := lw_gg (lw_in5 (List.mem_of_getElem? (i := 150) rfl)) rfl
set_option maxRecDepth 20000 in
theorem hS_X12_stop : Cond.selects RX12 yX12_stop yX12_stop ∈ lw_g := lw_gg (lw_in5 (List.mem_of_getElem? (i := 151) rfl)) rfl
set_option maxRecDepth 20000 in
theorem hC_X12_stop : Cond.code yX12_stop cX12_stop 1 (some .int) ∈ lw_g := lw_gg (lw_in5 (List.mem_of_getElem? (i := 152) rfl)) rfl
set_option maxRecDepth 20000 in
theorem hM_L_61 : Cond.methodLink RL 61 yX12_reset ∈ lw_g := lw_gg (lw_in5 (List.mem_of_getElem? (i := 153) rfl)) rfl
set_option maxRecDepth 20000 in
theorem hI_X12_reset : Cond.instanceMethod yX12_reset ∈ lw_g := lw_gg (lw_in5 (List.mem_of_getElem? (i := 154) rfl)) rfl
set_option maxRecDepth 20000 in
theorem hS_X12_reset : Cond.selects RX12 yX12_reset yX12_reset ∈ lw_g := lw_gg (lw_in5 (List.mem_of_getElem? (i := 155) rfl)) rfl
set_option maxRecDepth 20000 in
theorem hC_X12_reset : Cond.code yX12_reset cX12_reset 2 (some .int) ∈ lw_g := lw_gg (lw_in5 (List.mem_of_getElem? (i := 156) rfl)) rfl
set_option maxRecDepth 20000 in
theorem hM_L_65 : Cond.methodLink RL 65 yX12_told ∈ lw_g := lw_gg (lw_in5 (List.mem_of_getElem? (i := 157) rfl)) rfl
set_option maxRecDepth 20000 in
theorem hI_X12_told : Cond.instanceMethod yX12_told ∈ lw_g := lw_gg (lw_in5 (List.mem_of_getElem? (i := 158) rfl)) rfl
set_option maxRecDepth 20000 in
theorem hS_X12_told : Cond.selects RX12 yX12_told yX12_told ∈ lw_g := lw_gg (lw_in5 (List.mem_of_getElem? (i := 159) rfl)) rfl
set_option maxRecDepth 20000 in
theorem hC_X12_told : Cond.code yX12_told cX12_told 2 (some .int) ∈ lw_g := lw_gg (lw_in5 (List.mem_of_getElem? (i := 160) rfl)) rfl
set_option maxRecDepth 20000 in
theorem hM_L_69 : Cond.methodLink RL 69 yX12_was ∈ lw_g := lw_gg (lw_in5 (List.mem_of_getElem? (i := 161) rfl)) rfl
set_option maxRecDepth 20000 in
theorem hI_X12_was : Cond.instanceMethod yX12_was ∈ lw_g := lw_gg (lw_in5 (List.mem_of_getElem? (i := 162) rfl)) rfl
set_option maxRecDepth 20000 in
theorem hS_X12_was : Cond.selects RX12 yX12_was yX12_was ∈ lw_g := lw_gg (lw_in5 (List.mem_of_getElem? (i := 163) rfl)) rfl
set_option maxRecDepth 20000 in
theorem hC_X12_was : Cond.code yX12_was cX12_was 3 (some .int) ∈ lw_g := lw_gg (lw_in5 (List.mem_of_getElem? (i := 164) rfl)) rfl
set_option maxRecDepth 20000 in
theorem hK_X12_225 : Cond.constantLong RX12 225 (6) ∈ lw_g := lw_gg (lw_in5 (List.mem_of_getElem? (i := 165) rfl)) rfl
set_option maxRecDepth 20000 in
theorem hM_L_73 : Cond.methodLink RL 73 yX12_mark ∈ lw_g := lw_gg (lw_in5 (List.mem_of_getElem? (i := 166) rfl)) rfl
set_option maxRecDepth 20000 in
theorem hI_X12_mark : Cond.instanceMethod yX12_mark ∈ lw_g := lw_gg (lw_in5 (List.mem_of_getElem? (i := 167) rfl)) rfl
set_option maxRecDepth 20000 in
theorem hS_X12_mark : Cond.selects RX12 yX12_mark yX12_mark ∈ lw_g := lw_gg (lw_in5 (List.mem_of_getElem? (i := 168) rfl)) rfl
set_option maxRecDepth 20000 in
theorem hC_X12_mark : Cond.code yX12_mark cX12_mark 2 (some .int) ∈ lw_g := lw_gg (lw_in5 (List.mem_of_getElem? (i := 169) rfl)) rfl
set_option maxRecDepth 20000 in
theorem hM_L_78 : Cond.methodLink RL 78 yX12_channel ∈ lw_g := lw_gg (lw_in5 (List.mem_of_getElem? (i := 170) rfl)) rfl
set_option maxRecDepth 20000 in
theorem hI_X12_channel : Cond.instanceMethod yX12_channel ∈ lw_g := lw_gg (lw_in5 (List.mem_of_getElem? (i := 171) rfl)) rfl
set_option maxRecDepth 20000 in
theorem hS_X12_channel : Cond.selects RX12 yX12_channel yX12_channel ∈ lw_g := lw_gg (lw_in5 (List.mem_of_getElem? (i := 172) rfl)) rfl
set_option maxRecDepth 20000 in
theorem hC_X12_channel : Cond.code yX12_channel cX12_channel 6 (some .int) ∈ lw_g := lw_gg (lw_in5 (List.mem_of_getElem? (i := 173) rfl)) rfl
set_option maxRecDepth 20000 in
theorem hK_X12_227 : Cond.constantLong RX12 227 (-10000) ∈ lw_g := lw_gg (lw_in5 (List.mem_of_getElem? (i := 174) rfl)) rfl
set_option maxRecDepth 20000 in
theorem hK_X12_229 : Cond.constantLong RX12 229 (10000) ∈ lw_g := lw_gg (lw_in5 (List.mem_of_getElem? (i := 175) rfl)) rfl
set_option maxRecDepth 20000 in
theorem hM_L_82 : Cond.methodLink RL 82 yX12_limit ∈ lw_g := lw_gg (lw_in5 (List.mem_of_getElem? (i := 176) rfl)) rfl
set_option maxRecDepth 20000 in
theorem hI_X12_limit : Cond.instanceMethod yX12_limit ∈ lw_g := lw_gg (lw_in5 (List.mem_of_getElem? (i := 177) rfl)) rfl
set_option maxRecDepth 20000 in
theorem hS_X12_limit : Cond.selects RX12 yX12_limit yX12_limit ∈ lw_g := lw_gg (lw_in5 (List.mem_of_getElem? (i := 178) rfl)) rfl
set_option maxRecDepth 20000 in
theorem hC_X12_limit : Cond.code yX12_limit cX12_limit 3 (some .int) ∈ lw_g := lw_gg (lw_in5 (List.mem_of_getElem? (i := 179) rfl)) rfl
set_option maxRecDepth 20000 in
theorem hM_X12_231 : Cond.methodLink RX12 231 yX12_isChannel ∈ lw_g := lw_gg (lw_in5 (List.mem_of_getElem? (i := 180) rfl)) rfl
set_option maxRecDepth 20000 in
theorem hI_X12_isChannel : Cond.instanceMethod yX12_isChannel ∈ lw_g := lw_gg (lw_in5 (List.mem_of_getElem? (i := 182) rfl)) rfl
set_option maxRecDepth 20000 in
theorem hC_X12_isChannel : Cond.code yX12_isChannel cX12_isChannel 2 (some .boolean) ∈ lw_g := lw_gg (lw_in5 (List.mem_of_getElem? (i := 183) rfl)) rfl
set_option maxRecDepth 20000 in
theorem hK_X12_234 : Cond.constantLong RX12 234 (-30000) ∈ lw_g := lw_gg (lw_in5 (List.mem_of_getElem? (i := 184) rfl)) rfl
set_option maxRecDepth 20000 in
theorem hK_X12_236 : Cond.constantLong RX12 236 (30000) ∈ lw_g := lw_gg (lw_in5 (List.mem_of_getElem? (i := 185) rfl)) rfl
set_option maxRecDepth 20000 in
theorem hM_L_87 : Cond.methodLink RL 87 yX12_lose ∈ lw_g := lw_gg (lw_in5 (List.mem_of_getElem? (i := 186) rfl)) rfl
set_option maxRecDepth 20000 in
theorem hI_X12_lose : Cond.instanceMethod yX12_lose ∈ lw_g := lw_gg (lw_in5 (List.mem_of_getElem? (i := 187) rfl)) rfl
set_option maxRecDepth 20000 in
theorem hS_X12_lose : Cond.selects RX12 yX12_lose yX12_lose ∈ lw_g := lw_gg (lw_in5 (List.mem_of_getElem? (i := 188) rfl)) rfl
set_option maxRecDepth 20000 in
theorem hC_X12_lose : Cond.code yX12_lose cX12_lose 4 (some .int) ∈ lw_g := lw_gg (lw_in5 (List.mem_of_getElem? (i := 189) rfl)) rfl
set_option maxRecDepth 20000 in
theorem hK_X12_238 : Cond.constantLong RX12 238 (3000) ∈ lw_g := lw_gg (lw_in5 (List.mem_of_getElem? (i := 190) rfl)) rfl
set_option maxRecDepth 20000 in
theorem hM_L_99 : Cond.methodLink RL 99 yX12_reading ∈ lw_g := lw_gg (lw_in5 (List.mem_of_getElem? (i := 191) rfl)) rfl
set_option maxRecDepth 20000 in
theorem hI_X12_reading : Cond.instanceMethod yX12_reading ∈ lw_g := lw_gg (lw_in5 (List.mem_of_getElem? (i := 192) rfl)) rfl
set_option maxRecDepth 20000 in
theorem hS_X12_reading : Cond.selects RX12 yX12_reading yX12_reading ∈ lw_g := lw_gg (lw_in5 (List.mem_of_getElem? (i := 193) rfl)) rfl
set_option maxRecDepth 20000 in
theorem hC_X12_reading : Cond.code yX12_reading cX12_reading 3 (some .long) ∈ lw_g := lw_gg (lw_in5 (List.mem_of_getElem? (i := 194) rfl)) rfl
set_option maxRecDepth 20000 in
theorem hM_X12_246 : Cond.methodLink RX12 246 yX12_isRead ∈ lw_g := lw_gg (lw_in5 (List.mem_of_getElem? (i := 195) rfl)) rfl
set_option maxRecDepth 20000 in
theorem hI_X12_isRead : Cond.instanceMethod yX12_isRead ∈ lw_g := lw_gg (lw_in5 (List.mem_of_getElem? (i := 197) rfl)) rfl
set_option maxRecDepth 20000 in
theorem hC_X12_isRead : Cond.code yX12_isRead cX12_isRead 3 (some .boolean) ∈ lw_g := lw_gg (lw_in5 (List.mem_of_getElem? (i := 198) rfl)) rfl
set_option maxRecDepth 20000 in
theorem hM_L_103 : Cond.methodLink RL 103 yX12_state ∈ lw_g := lw_gg (lw_in5 (List.mem_of_getElem? (i := 199) rfl)) rfl
set_option maxRecDepth 20000 in
theorem hI_X12_state : Cond.instanceMethod yX12_state ∈ lw_g := lw_gg (lw_in5 (List.mem_of_getElem? (i := 200) rfl)) rfl
set_option maxRecDepth 20000 in
theorem hS_X12_state : Cond.selects RX12 yX12_state yX12_state ∈ lw_g := lw_gg (lw_in5 (List.mem_of_getElem? (i := 201) rfl)) rfl
set_option maxRecDepth 20000 in
theorem hC_X12_state : Cond.code yX12_state cX12_state 3 (some .int) ∈ lw_g := lw_gg (lw_in5 (List.mem_of_getElem? (i := 202) rfl)) rfl
set_option maxRecDepth 20000 in
theorem hM_X12_249 : Cond.methodLink RX12 249 yX12_isCut ∈ lw_g := lw_gg (lw_in5 (List.mem_of_getElem? (i := 203) rfl)) rfl
set_option maxRecDepth 20000 in
theorem hI_X12_isCut : Cond.instanceMethod yX12_isCut ∈ lw_g := lw_gg (lw_in5 (List.mem_of_getElem? (i := 205) rfl)) rfl
set_option maxRecDepth 20000 in
theorem hC_X12_isCut : Cond.code yX12_isCut cX12_isCut 4 (some .boolean) ∈ lw_g := lw_gg (lw_in5 (List.mem_of_getElem? (i := 206) rfl)) rfl
set_option maxRecDepth 20000 in
theorem hM_L_108 : Cond.methodLink RL 108 yX12_report ∈ lw_g := lw_gg (lw_in5 (List.mem_of_getElem? (i := 207) rfl)) rfl
set_option maxRecDepth 20000 in
theorem hI_X12_report : Cond.instanceMethod yX12_report ∈ lw_g := lw_gg (lw_in5 (List.mem_of_getElem? (i := 208) rfl)) rfl
set_option maxRecDepth 20000 in
theorem hS_X12_report : Cond.selects RX12 yX12_report yX12_report ∈ lw_g := lw_gg (lw_in5 (List.mem_of_getElem? (i := 209) rfl)) rfl
set_option maxRecDepth 20000 in
theorem hC_X12_report : Cond.code yX12_report cX12_report 4 (some .long) ∈ lw_g := lw_gg (lw_in5 (List.mem_of_getElem? (i := 210) rfl)) rfl
set_option maxRecDepth 20000 in
theorem hK_X12_252 : Cond.constantLong RX12 252 (7) ∈ lw_g := lw_gg (lw_in5 (List.mem_of_getElem? (i := 211) rfl)) rfl
set_option maxRecDepth 20000 in
theorem hM_X12_254 : Cond.methodLink RX12 254 yX12_makeReport ∈ lw_g := lw_gg (lw_in5 (List.mem_of_getElem? (i := 212) rfl)) rfl
set_option maxRecDepth 20000 in
theorem hI_X12_makeReport : Cond.instanceMethod yX12_makeReport ∈ lw_g := lw_gg (lw_in5 (List.mem_of_getElem? (i := 214) rfl)) rfl
set_option maxRecDepth 20000 in
theorem hC_X12_makeReport : Cond.code yX12_makeReport cX12_makeReport 9 none ∈ lw_g := lw_gg (lw_in5 (List.mem_of_getElem? (i := 215) rfl)) rfl
set_option maxRecDepth 20000 in
theorem hM_L_91 : Cond.methodLink RL 91 yX12_correct ∈ lw_g := lw_gg (lw_in5 (List.mem_of_getElem? (i := 216) rfl)) rfl
set_option maxRecDepth 20000 in
theorem hI_X12_correct : Cond.instanceMethod yX12_correct ∈ lw_g := lw_gg (lw_in5 (List.mem_of_getElem? (i := 217) rfl)) rfl
set_option maxRecDepth 20000 in
theorem hS_X12_correct : Cond.selects RX12 yX12_correct yX12_correct ∈ lw_g := lw_gg (lw_in5 (List.mem_of_getElem? (i := 218) rfl)) rfl
set_option maxRecDepth 20000 in
theorem hC_X12_correct : Cond.code yX12_correct cX12_correct 7 (some .int) ∈ lw_g := lw_gg (lw_in5 (List.mem_of_getElem? (i := 219) rfl)) rfl
set_option maxRecDepth 20000 in
theorem hK_X12_258 : Cond.constantLong RX12 258 (-1000) ∈ lw_g := lw_gg (lw_in5 (List.mem_of_getElem? (i := 220) rfl)) rfl
set_option maxRecDepth 20000 in
theorem hM_L_95 : Cond.methodLink RL 95 yX12_other ∈ lw_g := lw_gg (lw_in5 (List.mem_of_getElem? (i := 221) rfl)) rfl
set_option maxRecDepth 20000 in
theorem hI_X12_other : Cond.instanceMethod yX12_other ∈ lw_g := lw_gg (lw_in5 (List.mem_of_getElem? (i := 222) rfl)) rfl
set_option maxRecDepth 20000 in
theorem hS_X12_other : Cond.selects RX12 yX12_other yX12_other ∈ lw_g := lw_gg (lw_in5 (List.mem_of_getElem? (i := 223) rfl)) rfl
set_option maxRecDepth 20000 in
theorem hC_X12_other : Cond.code yX12_other cX12_other 2 (some .int) ∈ lw_g := lw_gg (lw_in5 (List.mem_of_getElem? (i := 224) rfl)) rfl
set_option maxRecDepth 20000 in
theorem hM_L_112 : Cond.methodLink RL 112 yX12_valid ∈ lw_g := lw_gg (lw_in5 (List.mem_of_getElem? (i := 225) rfl)) rfl
set_option maxRecDepth 20000 in
theorem hI_X12_valid : Cond.instanceMethod yX12_valid ∈ lw_g := lw_gg (lw_in5 (List.mem_of_getElem? (i := 226) rfl)) rfl
set_option maxRecDepth 20000 in
theorem hS_X12_valid : Cond.selects RX12 yX12_valid yX12_valid ∈ lw_g := lw_gg (lw_in5 (List.mem_of_getElem? (i := 227) rfl)) rfl
set_option maxRecDepth 20000 in
theorem hC_X12_valid : Cond.code yX12_valid cX12_valid 2 (some .int) ∈ lw_g := lw_gg (lw_in5 (List.mem_of_getElem? (i := 228) rfl)) rfl
set_option maxRecDepth 20000 in
theorem hM_X12_279 : Cond.methodLink RX12 279 yX12_makeLaw ∈ lw_g := lw_gg (lw_in5 (List.mem_of_getElem? (i := 229) rfl)) rfl
set_option maxRecDepth 20000 in
theorem hI_X12_makeLaw : Cond.instanceMethod yX12_makeLaw ∈ lw_g := lw_gg (lw_in5 (List.mem_of_getElem? (i := 231) rfl)) rfl
set_option maxRecDepth 20000 in
theorem hC_X12_makeLaw : Cond.code yX12_makeLaw cX12_makeLaw 17 none ∈ lw_g := lw_gg (lw_in5 (List.mem_of_getElem? (i := 232) rfl)) rfl
set_option maxRecDepth 20000 in
theorem hK_X12_282 : Cond.constantLong RX12 282 (950) ∈ lw_g := lw_gg (lw_in5 (List.mem_of_getElem? (i := 233) rfl)) rfl
set_option maxRecDepth 20000 in
theorem hK_X12_284 : Cond.constantLong RX12 284 (1050) ∈ lw_g := lw_gg (lw_in5 (List.mem_of_getElem? (i := 234) rfl)) rfl
set_option maxRecDepth 20000 in
theorem hK_X12_286 : Cond.constantLong RX12 286 (50) ∈ lw_g := lw_gg (lw_in5 (List.mem_of_getElem? (i := 235) rfl)) rfl
set_option maxRecDepth 20000 in
theorem hK_X12_288 : Cond.constantLong RX12 288 (-50) ∈ lw_g := lw_gg (lw_in5 (List.mem_of_getElem? (i := 236) rfl)) rfl
set_option maxRecDepth 20000 in
theorem hK_X12_290 : Cond.constantLong RX12 290 (400) ∈ lw_g := lw_gg (lw_in5 (List.mem_of_getElem? (i := 237) rfl)) rfl
set_option maxRecDepth 20000 in
theorem hM_L_116 : Cond.methodLink RL 116 yX12_law ∈ lw_g := lw_gg (lw_in5 (List.mem_of_getElem? (i := 238) rfl)) rfl
set_option maxRecDepth 20000 in
theorem hI_X12_law : Cond.instanceMethod yX12_law ∈ lw_g := lw_gg (lw_in5 (List.mem_of_getElem? (i := 239) rfl)) rfl
set_option maxRecDepth 20000 in
theorem hS_X12_law : Cond.selects RX12 yX12_law yX12_law ∈ lw_g := lw_gg (lw_in6 (List.mem_of_getElem? (i := 0) rfl)) rfl
set_option maxRecDepth 20000 in
theorem hC_X12_law : Cond.code yX12_law cX12_law 3 (some .long) ∈ lw_g := lw_gg (lw_in6 (List.mem_of_getElem? (i := 1) rfl)) rfl
set_option maxRecDepth 20000 in
theorem hM_L_120 : Cond.methodLink RL 120 yX12_sheet ∈ lw_g := lw_gg (lw_in6 (List.mem_of_getElem? (i := 2) rfl)) rfl
set_option maxRecDepth 20000 in
theorem hI_X12_sheet : Cond.instanceMethod yX12_sheet ∈ lw_g := lw_gg (lw_in6 (List.mem_of_getElem? (i := 3) rfl)) rfl
set_option maxRecDepth 20000 in
theorem hS_X12_sheet : Cond.selects RX12 yX12_sheet yX12_sheet ∈ lw_g := lw_gg (lw_in6 (List.mem_of_getElem? (i := 4) rfl)) rfl
set_option maxRecDepth 20000 in
theorem hC_X12_sheet : Cond.code yX12_sheet cX12_sheet 5 (some .int) ∈ lw_g := lw_gg (lw_in6 (List.mem_of_getElem? (i := 5) rfl)) rfl
set_option maxRecDepth 20000 in
theorem hM_L_124 : Cond.methodLink RL 124 yX12_drop ∈ lw_g := lw_gg (lw_in6 (List.mem_of_getElem? (i := 6) rfl)) rfl
set_option maxRecDepth 20000 in
theorem hI_X12_drop : Cond.instanceMethod yX12_drop ∈ lw_g := lw_gg (lw_in6 (List.mem_of_getElem? (i := 7) rfl)) rfl
set_option maxRecDepth 20000 in
theorem hS_X12_drop : Cond.selects RX12 yX12_drop yX12_drop ∈ lw_g := lw_gg (lw_in6 (List.mem_of_getElem? (i := 8) rfl)) rfl
set_option maxRecDepth 20000 in
theorem hC_X12_drop : Cond.code yX12_drop cX12_drop 3 (some .int) ∈ lw_g := lw_gg (lw_in6 (List.mem_of_getElem? (i := 9) rfl)) rfl
set_option maxRecDepth 20000 in
theorem hM_L_128 : Cond.methodLink RL 128 yX12_put ∈ lw_g := lw_gg (lw_in6 (List.mem_of_getElem? (i := 10) rfl)) rfl
set_option maxRecDepth 20000 in
theorem hI_X12_put : Cond.instanceMethod yX12_put ∈ lw_g := lw_gg (lw_in6 (List.mem_of_getElem? (i := 11) rfl)) rfl
set_option maxRecDepth 20000 in
theorem hS_X12_put : Cond.selects RX12 yX12_put yX12_put ∈ lw_g := lw_gg (lw_in6 (List.mem_of_getElem? (i := 12) rfl)) rfl
set_option maxRecDepth 20000 in
theorem hC_X12_put : Cond.code yX12_put cX12_put 4 (some .int) ∈ lw_g := lw_gg (lw_in6 (List.mem_of_getElem? (i := 13) rfl)) rfl
set_option maxRecDepth 20000 in
theorem hM_L_132 : Cond.methodLink RL 132 yX12_at ∈ lw_g := lw_gg (lw_in6 (List.mem_of_getElem? (i := 14) rfl)) rfl
set_option maxRecDepth 20000 in
theorem hI_X12_at : Cond.instanceMethod yX12_at ∈ lw_g := lw_gg (lw_in6 (List.mem_of_getElem? (i := 15) rfl)) rfl
set_option maxRecDepth 20000 in
theorem hS_X12_at : Cond.selects RX12 yX12_at yX12_at ∈ lw_g := lw_gg (lw_in6 (List.mem_of_getElem? (i := 16) rfl)) rfl
set_option maxRecDepth 20000 in
theorem hC_X12_at : Cond.code yX12_at cX12_at 4 (some .long) ∈ lw_g := lw_gg (lw_in6 (List.mem_of_getElem? (i := 17) rfl)) rfl
set_option maxRecDepth 20000 in
theorem hM_X12_292 : Cond.methodLink RX12 292 yX12_lost ∈ lw_g := lw_gg (lw_in6 (List.mem_of_getElem? (i := 18) rfl)) rfl
set_option maxRecDepth 20000 in
theorem hI_X12_lost : Cond.instanceMethod yX12_lost ∈ lw_g := lw_gg (lw_in6 (List.mem_of_getElem? (i := 20) rfl)) rfl
set_option maxRecDepth 20000 in
theorem hC_X12_lost : Cond.code yX12_lost cX12_lost 2 (some .long) ∈ lw_g := lw_gg (lw_in6 (List.mem_of_getElem? (i := 21) rfl)) rfl
set_option maxRecDepth 20000 in
theorem hM_L_136 : Cond.methodLink RL 136 yX12_tell ∈ lw_g := lw_gg (lw_in6 (List.mem_of_getElem? (i := 22) rfl)) rfl
set_option maxRecDepth 20000 in
theorem hI_X12_tell : Cond.instanceMethod yX12_tell ∈ lw_g := lw_gg (lw_in6 (List.mem_of_getElem? (i := 23) rfl)) rfl
set_option maxRecDepth 20000 in
theorem hS_X12_tell : Cond.selects RX12 yX12_tell yX12_tell ∈ lw_g := lw_gg (lw_in6 (List.mem_of_getElem? (i := 24) rfl)) rfl
set_option maxRecDepth 20000 in
theorem hC_X12_tell : Cond.code yX12_tell cX12_tell 2 (some .int) ∈ lw_g := lw_gg (lw_in6 (List.mem_of_getElem? (i := 25) rfl)) rfl
set_option maxRecDepth 20000 in
theorem hM_X12_299 : Cond.methodLink RX12 299 yX12_begins ∈ lw_g := lw_gg (lw_in6 (List.mem_of_getElem? (i := 26) rfl)) rfl
set_option maxRecDepth 20000 in
theorem hI_X12_begins : Cond.instanceMethod yX12_begins ∈ lw_g := lw_gg (lw_in6 (List.mem_of_getElem? (i := 28) rfl)) rfl
set_option maxRecDepth 20000 in
theorem hC_X12_begins : Cond.code yX12_begins cX12_begins 2 none ∈ lw_g := lw_gg (lw_in6 (List.mem_of_getElem? (i := 29) rfl)) rfl
set_option maxRecDepth 20000 in
theorem hM_L_140 : Cond.methodLink RL 140 yX12_draw ∈ lw_g := lw_gg (lw_in6 (List.mem_of_getElem? (i := 30) rfl)) rfl
set_option maxRecDepth 20000 in
theorem hI_X12_draw : Cond.instanceMethod yX12_draw ∈ lw_g := lw_gg (lw_in6 (List.mem_of_getElem? (i := 31) rfl)) rfl
set_option maxRecDepth 20000 in
theorem hS_X12_draw : Cond.selects RX12 yX12_draw yX12_draw ∈ lw_g := lw_gg (lw_in6 (List.mem_of_getElem? (i := 32) rfl)) rfl
set_option maxRecDepth 20000 in
theorem hC_X12_draw : Cond.code yX12_draw cX12_draw 3 (some .int) ∈ lw_g := lw_gg (lw_in6 (List.mem_of_getElem? (i := 33) rfl)) rfl
set_option maxRecDepth 20000 in
theorem hM_L_144 : Cond.methodLink RL 144 yX12_as ∈ lw_g := lw_gg (lw_in6 (List.mem_of_getElem? (i := 34) rfl)) rfl
set_option maxRecDepth 20000 in
theorem hI_X12_as : Cond.instanceMethod yX12_as ∈ lw_g := lw_gg (lw_in6 (List.mem_of_getElem? (i := 35) rfl)) rfl
set_option maxRecDepth 20000 in
theorem hS_X12_as : Cond.selects RX12 yX12_as yX12_as ∈ lw_g := lw_gg (lw_in6 (List.mem_of_getElem? (i := 36) rfl)) rfl
set_option maxRecDepth 20000 in
theorem hC_X12_as : Cond.code yX12_as cX12_as 5 (some .int) ∈ lw_g := lw_gg (lw_in6 (List.mem_of_getElem? (i := 37) rfl)) rfl
set_option maxRecDepth 20000 in
theorem hM_L_148 : Cond.methodLink RL 148 yX12_trace ∈ lw_g := lw_gg (lw_in6 (List.mem_of_getElem? (i := 38) rfl)) rfl
set_option maxRecDepth 20000 in
theorem hI_X12_trace : Cond.instanceMethod yX12_trace ∈ lw_g := lw_gg (lw_in6 (List.mem_of_getElem? (i := 39) rfl)) rfl
set_option maxRecDepth 20000 in
theorem hS_X12_trace : Cond.selects RX12 yX12_trace yX12_trace ∈ lw_g := lw_gg (lw_in6 (List.mem_of_getElem? (i := 40) rfl)) rfl
set_option maxRecDepth 20000 in
theorem hC_X12_trace : Cond.code yX12_trace cX12_trace 1 (some .int) ∈ lw_g := lw_gg (lw_in6 (List.mem_of_getElem? (i := 41) rfl)) rfl
set_option maxRecDepth 20000 in
theorem hM_L_152 : Cond.methodLink RL 152 yX12_fault ∈ lw_g := lw_gg (lw_in6 (List.mem_of_getElem? (i := 42) rfl)) rfl
set_option maxRecDepth 20000 in
theorem hI_X12_fault : Cond.instanceMethod yX12_fault ∈ lw_g := lw_gg (lw_in6 (List.mem_of_getElem? (i := 43) rfl)) rfl
set_option maxRecDepth 20000 in
theorem hS_X12_fault : Cond.selects RX12 yX12_fault yX12_fault ∈ lw_g := lw_gg (lw_in6 (List.mem_of_getElem? (i := 44) rfl)) rfl
set_option maxRecDepth 20000 in
theorem hC_X12_fault : Cond.code yX12_fault cX12_fault 1 (some .int) ∈ lw_g := lw_gg (lw_in6 (List.mem_of_getElem? (i := 45) rfl)) rfl
set_option maxRecDepth 20000 in
theorem hS_X11_findSheet : Cond.selects RX11 yX11_findSheet yX11_findSheet ∈ lw_g := lw_gg (List.mem_append_left _ (List.mem_of_getElem? (i := 0) rfl)) rfl
set_option maxRecDepth 20000 in
theorem hS_X11_faulted : Cond.selects RX11 yX11_faulted yX11_faulted ∈ lw_g := lw_gg (List.mem_append_left _ (List.mem_of_getElem? (i := 1) rfl)) rfl
set_option maxRecDepth 20000 in
theorem hS_X8_comeTo : Cond.selects RX8 yX8_comeTo yX8_comeTo ∈ lw_g := lw_gg (List.mem_append_left _ (List.mem_of_getElem? (i := 2) rfl)) rfl
set_option maxRecDepth 20000 in
theorem hS_X8_goOn : Cond.selects RX8 yX8_goOn yX8_goOn ∈ lw_g := lw_gg (List.mem_append_left _ (List.mem_of_getElem? (i := 3) rfl)) rfl
set_option maxRecDepth 20000 in
theorem hS_X8_spend : Cond.selects RX8 yX8_spend yX8_spend ∈ lw_g := lw_gg (List.mem_append_left _ (List.mem_of_getElem? (i := 4) rfl)) rfl
set_option maxRecDepth 20000 in
theorem hS_X8_ramp : Cond.selects RX8 yX8_ramp yX8_ramp ∈ lw_g := lw_gg (List.mem_append_left _ (List.mem_of_getElem? (i := 5) rfl)) rfl
set_option maxRecDepth 20000 in
theorem hS_X8_isWaitOver : Cond.selects RX8 yX8_isWaitOver yX8_isWaitOver ∈ lw_g := lw_gg (List.mem_append_left _ (List.mem_of_getElem? (i := 6) rfl)) rfl
set_option maxRecDepth 20000 in
theorem hS_X8_loop : Cond.selects RX8 yX8_loop yX8_loop ∈ lw_g := lw_gg (List.mem_append_left _ (List.mem_of_getElem? (i := 7) rfl)) rfl
set_option maxRecDepth 20000 in
theorem hS_X3_change : Cond.selects RX3 yX3_change yX3_change ∈ lw_g := lw_gg (List.mem_append_left _ (List.mem_of_getElem? (i := 8) rfl)) rfl
set_option maxRecDepth 20000 in
theorem hS_X7_join : Cond.selects RX7 yX7_join yX7_join ∈ lw_g := lw_gg (List.mem_append_left _ (List.mem_of_getElem? (i := 9) rfl)) rfl
set_option maxRecDepth 20000 in
theorem hS_X7_count : Cond.selects RX7 yX7_count yX7_count ∈ lw_g := lw_gg (List.mem_append_left _ (List.mem_of_getElem? (i := 10) rfl)) rfl
set_option maxRecDepth 20000 in
theorem hS_X7_name : Cond.selects RX7 yX7_name yX7_name ∈ lw_g := lw_gg (List.mem_append_left _ (List.mem_of_getElem? (i := 11) rfl)) rfl
set_option maxRecDepth 20000 in
theorem hS_X4_count : Cond.selects RX4 yX4_count yX4_count ∈ lw_g := lw_gg (List.mem_append_left _ (List.mem_of_getElem? (i := 12) rfl)) rfl
set_option maxRecDepth 20000 in
theorem hS_X0_holds : Cond.selects RX0 yX0_holds yX0_holds ∈ lw_g := lw_gg (List.mem_append_left _ (List.mem_of_getElem? (i := 13) rfl)) rfl
set_option maxRecDepth 20000 in
theorem hS_X0_leave : Cond.selects RX0 yX0_leave yX0_leave ∈ lw_g := lw_gg (List.mem_append_left _ (List.mem_of_getElem? (i := 14) rfl)) rfl
set_option maxRecDepth 20000 in
theorem hS_X0_ramps : Cond.selects RX0 yX0_ramps yX0_ramps ∈ lw_g := lw_gg (List.mem_append_left _ (List.mem_of_getElem? (i := 15) rfl)) rfl
set_option maxRecDepth 20000 in
theorem hS_X0_waits : Cond.selects RX0 yX0_waits yX0_waits ∈ lw_g := lw_gg (List.mem_append_left _ (List.mem_of_getElem? (i := 16) rfl)) rfl
set_option maxRecDepth 20000 in
theorem hS_X0_loops : Cond.selects RX0 yX0_loops yX0_loops ∈ lw_g := lw_gg (List.mem_append_left _ (List.mem_of_getElem? (i := 17) rfl)) rfl
set_option maxRecDepth 20000 in
theorem hS_X12_torqueAt : Cond.selects RX12 yX12_torqueAt yX12_torqueAt ∈ lw_g := lw_gg (List.mem_append_left _ (List.mem_of_getElem? (i := 18) rfl)) rfl
set_option maxRecDepth 20000 in
theorem hS_X12_addStep : Cond.selects RX12 yX12_addStep yX12_addStep ∈ lw_g := lw_gg (List.mem_append_left _ (List.mem_of_getElem? (i := 19) rfl)) rfl
set_option maxRecDepth 20000 in
theorem hS_X12_fails : Cond.selects RX12 yX12_fails yX12_fails ∈ lw_g := lw_gg (List.mem_append_left _ (List.mem_of_getElem? (i := 20) rfl)) rfl
set_option maxRecDepth 20000 in
theorem hS_X12_isStep : Cond.selects RX12 yX12_isStep yX12_isStep ∈ lw_g := lw_gg (List.mem_append_left _ (List.mem_of_getElem? (i := 21) rfl)) rfl
set_option maxRecDepth 20000 in
theorem hS_X12_turn : Cond.selects RX12 yX12_turn yX12_turn ∈ lw_g := lw_gg (List.mem_append_left _ (List.mem_of_getElem? (i := 22) rfl)) rfl
set_option maxRecDepth 20000 in
theorem hS_X12_goOn : Cond.selects RX12 yX12_goOn yX12_goOn ∈ lw_g := lw_gg (List.mem_append_left _ (List.mem_of_getElem? (i := 23) rfl)) rfl
set_option maxRecDepth 20000 in
theorem hS_X12_stopBy : Cond.selects RX12 yX12_stopBy yX12_stopBy ∈ lw_g := lw_gg (List.mem_append_left _ (List.mem_of_getElem? (i := 24) rfl)) rfl
set_option maxRecDepth 20000 in
theorem hS_X12_passes : Cond.selects RX12 yX12_passes yX12_passes ∈ lw_g := lw_gg (List.mem_append_left _ (List.mem_of_getElem? (i := 25) rfl)) rfl
set_option maxRecDepth 20000 in
theorem hS_X12_ramp : Cond.selects RX12 yX12_ramp yX12_ramp ∈ lw_g := lw_gg (List.mem_append_left _ (List.mem_of_getElem? (i := 26) rfl)) rfl
set_option maxRecDepth 20000 in
theorem hS_X12_waits : Cond.selects RX12 yX12_waits yX12_waits ∈ lw_g := lw_gg (List.mem_append_left _ (List.mem_of_getElem? (i := 27) rfl)) rfl
set_option maxRecDepth 20000 in
theorem hS_X12_isLost : Cond.selects RX12 yX12_isLost yX12_isLost ∈ lw_g := lw_gg (List.mem_append_left _ (List.mem_of_getElem? (i := 28) rfl)) rfl
set_option maxRecDepth 20000 in
theorem hS_X12_corrected : Cond.selects RX12 yX12_corrected yX12_corrected ∈ lw_g := lw_gg (List.mem_append_left _ (List.mem_of_getElem? (i := 29) rfl)) rfl
set_option maxRecDepth 20000 in
theorem hS_X12_raw : Cond.selects RX12 yX12_raw yX12_raw ∈ lw_g := lw_gg (List.mem_append_left _ (List.mem_of_getElem? (i := 30) rfl)) rfl
set_option maxRecDepth 20000 in
theorem hS_X12_isChannel : Cond.selects RX12 yX12_isChannel yX12_isChannel ∈ lw_g := lw_gg (List.mem_append_left _ (List.mem_of_getElem? (i := 31) rfl)) rfl
set_option maxRecDepth 20000 in
theorem hS_X12_isRead : Cond.selects RX12 yX12_isRead yX12_isRead ∈ lw_g := lw_gg (List.mem_append_left _ (List.mem_of_getElem? (i := 32) rfl)) rfl
set_option maxRecDepth 20000 in
theorem hS_X12_isCut : Cond.selects RX12 yX12_isCut yX12_isCut ∈ lw_g := lw_gg (List.mem_append_left _ (List.mem_of_getElem? (i := 33) rfl)) rfl
set_option maxRecDepth 20000 in
theorem hS_X12_makeReport : Cond.selects RX12 yX12_makeReport yX12_makeReport ∈ lw_g := lw_gg (List.mem_append_left _ (List.mem_of_getElem? (i := 34) rfl)) rfl
set_option maxRecDepth 20000 in
theorem hS_X12_makeLaw : Cond.selects RX12 yX12_makeLaw yX12_makeLaw ∈ lw_g := lw_gg (List.mem_append_left _ (List.mem_of_getElem? (i := 35) rfl)) rfl
set_option maxRecDepth 20000 in
theorem hS_X12_lost : Cond.selects RX12 yX12_lost yX12_lost ∈ lw_g := lw_gg (List.mem_append_left _ (List.mem_of_getElem? (i := 36) rfl)) rfl
set_option maxRecDepth 20000 in
theorem hS_X12_begins : Cond.selects RX12 yX12_begins yX12_begins ∈ lw_g := lw_gg (List.mem_append_left _ (List.mem_of_getElem? (i := 37) rfl)) rfl
set_option maxRecDepth 20000 in
theorem hU_X0 : ∀ w ∈ u_ws RX0 TX0 1, w ∈ lw_g := show ∀ w ∈ [u_lay RX0 TX0 0], w ∈ lw_g from List.forall_mem_cons.mpr ⟨lw_gg (lw_in2 (List.mem_of_getElem? (i := 17) rfl)) rfl, fun _ h => absurd h List.not_mem_nil⟩
set_option maxRecDepth 20000 in
theorem hU_X1 : ∀ w ∈ u_ws RX1 TX1 8, w ∈ lw_g := show ∀ w ∈ [u_lay RX1 TX1 0, u_lay RX1 TX1 1, u_lay RX1 TX1 2, u_lay RX1 TX1 3, u_lay RX1 TX1 4, u_lay RX1 TX1 5, u_lay RX1 TX1 6, u_lay RX1 TX1 7], w ∈ lw_g from List.forall_mem_cons.mpr ⟨lw_gg (lw_in3 (List.mem_of_getElem? (i := 120) rfl)) rfl, List.forall_mem_cons.mpr ⟨lw_gg (lw_in3 (List.mem_of_getElem? (i := 122) rfl)) rfl, List.forall_mem_cons.mpr ⟨lw_gg (lw_in3 (List.mem_of_getElem? (i := 124) rfl)) rfl, List.forall_mem_cons.mpr ⟨lw_gg (lw_in3 (List.mem_of_getElem? (i := 126) rfl)) rfl, List.forall_mem_cons.mpr ⟨lw_gg (lw_in3 (List.mem_of_getElem? (i := 128) rfl)) rfl, List.forall_mem_cons.mpr ⟨lw_gg (lw_in3 (List.mem_of_getElem? (i := 130) rfl)) rfl, List.forall_mem_cons.mpr ⟨lw_gg (lw_in3 (List.mem_of_getElem? (i := 132) rfl)) rfl, List.forall_mem_cons.mpr ⟨lw_gg (lw_in3 (List.mem_of_getElem? (i := 134) rfl)) rfl, fun _ h => absurd h List.not_mem_nil⟩⟩⟩⟩⟩⟩⟩⟩
set_option maxRecDepth 20000 in
theorem hU_X2 : ∀ w ∈ u_ws RX2 TX2 5, w ∈ lw_g := show ∀ w ∈ [u_lay RX2 TX2 0, u_lay RX2 TX2 1, u_lay RX2 TX2 2, u_lay RX2 TX2 3, u_lay RX2 TX2 4], w ∈ lw_g from List.forall_mem_cons.mpr ⟨lw_gg (lw_in1 (List.mem_of_getElem? (i := 103) rfl)) rfl, List.forall_mem_cons.mpr ⟨lw_gg (lw_in1 (List.mem_of_getElem? (i := 105) rfl)) rfl, List.forall_mem_cons.mpr ⟨lw_gg (lw_in1 (List.mem_of_getElem? (i := 107) rfl)) rfl, List.forall_mem_cons.mpr ⟨lw_gg (lw_in1 (List.mem_of_getElem? (i := 109) rfl)) rfl, List.forall_mem_cons.mpr ⟨lw_gg (lw_in1 (List.mem_of_getElem? (i := 111) rfl)) rfl, fun _ h => absurd h List.not_mem_nil⟩⟩⟩⟩⟩
set_option maxRecDepth 20000 in
theorem hU_X3 : ∀ w ∈ u_ws RX3 TX3 4, w ∈ lw_g := show ∀ w ∈ [u_lay RX3 TX3 0, u_lay RX3 TX3 1, u_lay RX3 TX3 2, u_lay RX3 TX3 3], w ∈ lw_g from List.forall_mem_cons.mpr ⟨lw_gg (lw_in1 (List.mem_of_getElem? (i := 39) rfl)) rfl, List.forall_mem_cons.mpr ⟨lw_gg (lw_in1 (List.mem_of_getElem? (i := 41) rfl)) rfl, List.forall_mem_cons.mpr ⟨lw_gg (lw_in1 (List.mem_of_getElem? (i := 43) rfl)) rfl, List.forall_mem_cons.mpr ⟨lw_gg (lw_in1 (List.mem_of_getElem? (i := 45) rfl)) rfl, fun _ h => absurd h List.not_mem_nil⟩⟩⟩⟩
set_option maxRecDepth 20000 in
theorem hU_X4 : ∀ w ∈ u_ws RX4 TX4 9, w ∈ lw_g := show ∀ w ∈ [u_lay RX4 TX4 0, u_lay RX4 TX4 1, u_lay RX4 TX4 2, u_lay RX4 TX4 3, u_lay RX4 TX4 4, u_lay RX4 TX4 5, u_lay RX4 TX4 6, u_lay RX4 TX4 7, u_lay RX4 TX4 8], w ∈ lw_g from List.forall_mem_cons.mpr ⟨lw_gg (lw_in1 (List.mem_of_getElem? (i := 230) rfl)) rfl, List.forall_mem_cons.mpr ⟨lw_gg (lw_in1 (List.mem_of_getElem? (i := 232) rfl)) rfl, List.forall_mem_cons.mpr ⟨lw_gg (lw_in1 (List.mem_of_getElem? (i := 234) rfl)) rfl, List.forall_mem_cons.mpr ⟨lw_gg (lw_in1 (List.mem_of_getElem? (i := 236) rfl)) rfl, List.forall_mem_cons.mpr ⟨lw_gg (lw_in1 (List.mem_of_getElem? (i := 238) rfl)) rfl, List.forall_mem_cons.mpr ⟨lw_gg (lw_in2 (List.mem_of_getElem? (i := 0) rfl)) rfl, List.forall_mem_cons.mpr ⟨lw_gg (lw_in2 (List.mem_of_getElem? (i := 2) rfl)) rfl, List.forall_mem_cons.mpr ⟨lw_gg (lw_in2 (List.mem_of_getElem? (i := 4) rfl)) rfl, List.forall_mem_cons.mpr ⟨lw_gg (lw_in2 (List.mem_of_getElem? (i := 6) rfl)) rfl, fun _ h => absurd h List.not_mem_nil⟩⟩⟩⟩⟩⟩⟩⟩⟩
set_option maxRecDepth 20000 in
theorem hU_X5 : ∀ w ∈ u_ws RX5 TX5 2, w ∈ lw_g := show ∀ w ∈ [u_lay RX5 TX5 0, u_lay RX5 TX5 1], w ∈ lw_g from List.forall_mem_cons.mpr ⟨lw_gg (lw_in1 (List.mem_of_getElem? (i := 124) rfl)) rfl, List.forall_mem_cons.mpr ⟨lw_gg (lw_in1 (List.mem_of_getElem? (i := 126) rfl)) rfl, fun _ h => absurd h List.not_mem_nil⟩⟩
set_option maxRecDepth 20000 in
theorem hU_X6 : ∀ w ∈ u_ws RX6 TX6 2, w ∈ lw_g := show ∀ w ∈ [u_lay RX6 TX6 0, u_lay RX6 TX6 1], w ∈ lw_g from List.forall_mem_cons.mpr ⟨lw_gg (lw_in1 (List.mem_of_getElem? (i := 59) rfl)) rfl, List.forall_mem_cons.mpr ⟨lw_gg (lw_in1 (List.mem_of_getElem? (i := 61) rfl)) rfl, fun _ h => absurd h List.not_mem_nil⟩⟩
set_option maxRecDepth 20000 in
theorem hU_X7 : ∀ w ∈ u_ws RX7 TX7 7, w ∈ lw_g := show ∀ w ∈ [u_lay RX7 TX7 0, u_lay RX7 TX7 1, u_lay RX7 TX7 2, u_lay RX7 TX7 3, u_lay RX7 TX7 4, u_lay RX7 TX7 5, u_lay RX7 TX7 6], w ∈ lw_g from List.forall_mem_cons.mpr ⟨lw_gg (lw_in1 (List.mem_of_getElem? (i := 196) rfl)) rfl, List.forall_mem_cons.mpr ⟨lw_gg (lw_in1 (List.mem_of_getElem? (i := 198) rfl)) rfl, List.forall_mem_cons.mpr ⟨lw_gg (lw_in1 (List.mem_of_getElem? (i := 200) rfl)) rfl, List.forall_mem_cons.mpr ⟨lw_gg (lw_in1 (List.mem_of_getElem? (i := 202) rfl)) rfl, List.forall_mem_cons.mpr ⟨lw_gg (lw_in1 (List.mem_of_getElem? (i := 204) rfl)) rfl, List.forall_mem_cons.mpr ⟨lw_gg (lw_in1 (List.mem_of_getElem? (i := 206) rfl)) rfl, List.forall_mem_cons.mpr ⟨lw_gg (lw_in1 (List.mem_of_getElem? (i := 208) rfl)) rfl, fun _ h => absurd h List.not_mem_nil⟩⟩⟩⟩⟩⟩⟩
set_option maxRecDepth 20000 in
theorem hU_X8 : ∀ w ∈ u_ws RX8 TX8 14, w ∈ lw_g := show ∀ w ∈ [u_lay RX8 TX8 0, u_lay RX8 TX8 1, u_lay RX8 TX8 2, u_lay RX8 TX8 3, u_lay RX8 TX8 4, u_lay RX8 TX8 5, u_lay RX8 TX8 6, u_lay RX8 TX8 7, u_lay RX8 TX8 8, u_lay RX8 TX8 9, u_lay RX8 TX8 10, u_lay RX8 TX8 11, u_lay RX8 TX8 12, u_lay RX8 TX8 13], w ∈ lw_g from List.forall_mem_cons.mpr ⟨lw_gg (lw_in1 (List.mem_of_getElem? (i := 153) rfl)) rfl, List.forall_mem_cons.mpr ⟨lw_gg (lw_in1 (List.mem_of_getElem? (i := 155) rfl)) rfl, List.forall_mem_cons.mpr ⟨lw_gg (lw_in1 (List.mem_of_getElem? (i := 157) rfl)) rfl, List.forall_mem_cons.mpr ⟨lw_gg (lw_in1 (List.mem_of_getElem? (i := 159) rfl)) rfl, List.forall_mem_cons.mpr ⟨lw_gg (lw_in1 (List.mem_of_getElem? (i := 161) rfl)) rfl, List.forall_mem_cons.mpr ⟨lw_gg (lw_in1 (List.mem_of_getElem? (i := 163) rfl)) rfl, List.forall_mem_cons.mpr ⟨lw_gg (lw_in1 (List.mem_of_getElem? (i := 165) rfl)) rfl, List.forall_mem_cons.mpr ⟨lw_gg (lw_in1 (List.mem_of_getElem? (i := 167) rfl)) rfl, List.forall_mem_cons.mpr ⟨lw_gg (lw_in1 (List.mem_of_getElem? (i := 169) rfl)) rfl, List.forall_mem_cons.mpr ⟨lw_gg (lw_in1 (List.mem_of_getElem? (i := 171) rfl)) rfl, List.forall_mem_cons.mpr ⟨lw_gg (lw_in1 (List.mem_of_getElem? (i := 173) rfl)) rfl, List.forall_mem_cons.mpr ⟨lw_gg (lw_in1 (List.mem_of_getElem? (i := 175) rfl)) rfl, List.forall_mem_cons.mpr ⟨lw_gg (lw_in1 (List.mem_of_getElem? (i := 177) rfl)) rfl, List.forall_mem_cons.mpr ⟨lw_gg (lw_in1 (List.mem_of_getElem? (i := 179) rfl)) rfl, fun _ h => absurd h List.not_mem_nil⟩⟩⟩⟩⟩⟩⟩⟩⟩⟩⟩⟩⟩⟩
set_option maxRecDepth 20000 in
theorem hU_X9 : ∀ w ∈ u_ws RX9 TX9 4, w ∈ lw_g := show ∀ w ∈ [u_lay RX9 TX9 0, u_lay RX9 TX9 1, u_lay RX9 TX9 2, u_lay RX9 TX9 3], w ∈ lw_g from List.forall_mem_cons.mpr ⟨lw_gg (lw_in2 (List.mem_of_getElem? (i := 32) rfl)) rfl, List.forall_mem_cons.mpr ⟨lw_gg (lw_in2 (List.mem_of_getElem? (i := 34) rfl)) rfl, List.forall_mem_cons.mpr ⟨lw_gg (lw_in2 (List.mem_of_getElem? (i := 36) rfl)) rfl, List.forall_mem_cons.mpr ⟨lw_gg (lw_in2 (List.mem_of_getElem? (i := 38) rfl)) rfl, fun _ h => absurd h List.not_mem_nil⟩⟩⟩⟩
set_option maxRecDepth 20000 in
theorem hU_X10 : ∀ w ∈ u_ws RX10 TX10 5, w ∈ lw_g := show ∀ w ∈ [u_lay RX10 TX10 0, u_lay RX10 TX10 1, u_lay RX10 TX10 2, u_lay RX10 TX10 3, u_lay RX10 TX10 4], w ∈ lw_g from List.forall_mem_cons.mpr ⟨lw_gg (lw_in1 (List.mem_of_getElem? (i := 84) rfl)) rfl, List.forall_mem_cons.mpr ⟨lw_gg (lw_in1 (List.mem_of_getElem? (i := 86) rfl)) rfl, List.forall_mem_cons.mpr ⟨lw_gg (lw_in1 (List.mem_of_getElem? (i := 88) rfl)) rfl, List.forall_mem_cons.mpr ⟨lw_gg (lw_in1 (List.mem_of_getElem? (i := 90) rfl)) rfl, List.forall_mem_cons.mpr ⟨lw_gg (lw_in1 (List.mem_of_getElem? (i := 92) rfl)) rfl, fun _ h => absurd h List.not_mem_nil⟩⟩⟩⟩⟩
set_option maxRecDepth 20000 in
theorem hU_X11 : ∀ w ∈ u_ws RX11 TX11 10, w ∈ lw_g := show ∀ w ∈ [u_lay RX11 TX11 0, u_lay RX11 TX11 1, u_lay RX11 TX11 2, u_lay RX11 TX11 3, u_lay RX11 TX11 4, u_lay RX11 TX11 5, u_lay RX11 TX11 6, u_lay RX11 TX11 7, u_lay RX11 TX11 8, u_lay RX11 TX11 9], w ∈ lw_g from List.forall_mem_cons.mpr ⟨lw_gg (lw_in2 (List.mem_of_getElem? (i := 51) rfl)) rfl, List.forall_mem_cons.mpr ⟨lw_gg (lw_in2 (List.mem_of_getElem? (i := 53) rfl)) rfl, List.forall_mem_cons.mpr ⟨lw_gg (lw_in2 (List.mem_of_getElem? (i := 55) rfl)) rfl, List.forall_mem_cons.mpr ⟨lw_gg (lw_in2 (List.mem_of_getElem? (i := 57) rfl)) rfl, List.forall_mem_cons.mpr ⟨lw_gg (lw_in2 (List.mem_of_getElem? (i := 59) rfl)) rfl, List.forall_mem_cons.mpr ⟨lw_gg (lw_in2 (List.mem_of_getElem? (i := 61) rfl)) rfl, List.forall_mem_cons.mpr ⟨lw_gg (lw_in2 (List.mem_of_getElem? (i := 63) rfl)) rfl, List.forall_mem_cons.mpr ⟨lw_gg (lw_in2 (List.mem_of_getElem? (i := 65) rfl)) rfl, List.forall_mem_cons.mpr ⟨lw_gg (lw_in2 (List.mem_of_getElem? (i := 67) rfl)) rfl, List.forall_mem_cons.mpr ⟨lw_gg (lw_in2 (List.mem_of_getElem? (i := 69) rfl)) rfl, fun _ h => absurd h List.not_mem_nil⟩⟩⟩⟩⟩⟩⟩⟩⟩⟩
set_option maxRecDepth 20000 in
theorem hU_X12 : ∀ w ∈ u_ws RX12 TX12 52, w ∈ lw_g := show ∀ w ∈ [u_lay RX12 TX12 0, u_lay RX12 TX12 1, u_lay RX12 TX12 2, u_lay RX12 TX12 3, u_lay RX12 TX12 4, u_lay RX12 TX12 5, u_lay RX12 TX12 6, u_lay RX12 TX12 7, u_lay RX12 TX12 8, u_lay RX12 TX12 9, u_lay RX12 TX12 10, u_lay RX12 TX12 11, u_lay RX12 TX12 12, u_lay RX12 TX12 13, u_lay RX12 TX12 14, u_lay RX12 TX12 15, u_lay RX12 TX12 16, u_lay RX12 TX12 17, u_lay RX12 TX12 18, u_lay RX12 TX12 19, u_lay RX12 TX12 20, u_lay RX12 TX12 21, u_lay RX12 TX12 22, u_lay RX12 TX12 23, u_lay RX12 TX12 24, u_lay RX12 TX12 25, u_lay RX12 TX12 26, u_lay RX12 TX12 27, u_lay RX12 TX12 28, u_lay RX12 TX12 29, u_lay RX12 TX12 30, u_lay RX12 TX12 31, u_lay RX12 TX12 32, u_lay RX12 TX12 33, u_lay RX12 TX12 34, u_lay RX12 TX12 35, u_lay RX12 TX12 36, u_lay RX12 TX12 37, u_lay RX12 TX12 38, u_lay RX12 TX12 39, u_lay RX12 TX12 40, u_lay RX12 TX12 41, u_lay RX12 TX12 42, u_lay RX12 TX12 43, u_lay RX12 TX12 44, u_lay RX12 TX12 45, u_lay RX12 TX12 46, u_lay RX12 TX12 47, u_lay RX12 TX12 48, u_lay RX12 TX12 49, u_lay RX12 TX12 50, u_lay RX12 TX12 51], w ∈ lw_g from List.forall_mem_cons.mpr ⟨lw_gg (lw_in4 (List.mem_of_getElem? (i := 175) rfl)) rfl, List.forall_mem_cons.mpr ⟨lw_gg (lw_in4 (List.mem_of_getElem? (i := 177) rfl)) rfl, List.forall_mem_cons.mpr ⟨lw_gg (lw_in4 (List.mem_of_getElem? (i := 179) rfl)) rfl, List.forall_mem_cons.mpr ⟨lw_gg (lw_in4 (List.mem_of_getElem? (i := 181) rfl)) rfl, List.forall_mem_cons.mpr ⟨lw_gg (lw_in4 (List.mem_of_getElem? (i := 183) rfl)) rfl, List.forall_mem_cons.mpr ⟨lw_gg (lw_in4 (List.mem_of_getElem? (i := 185) rfl)) rfl, List.forall_mem_cons.mpr ⟨lw_gg (lw_in4 (List.mem_of_getElem? (i := 187) rfl)) rfl, List.forall_mem_cons.mpr ⟨lw_gg (lw_in4 (List.mem_of_getElem? (i := 189) rfl)) rfl, List.forall_mem_cons.mpr ⟨lw_gg (lw_in4 (List.mem_of_getElem? (i := 191) rfl)) rfl, List.forall_mem_cons.mpr ⟨lw_gg (lw_in4 (List.mem_of_getElem? (i := 193) rfl)) rfl, List.forall_mem_cons.mpr ⟨lw_gg (lw_in4 (List.mem_of_getElem? (i := 195) rfl)) rfl, List.forall_mem_cons.mpr ⟨lw_gg (lw_in4 (List.mem_of_getElem? (i := 197) rfl)) rfl, List.forall_mem_cons.mpr ⟨lw_gg (lw_in4 (List.mem_of_getElem? (i := 199) rfl)) rfl, List.forall_mem_cons.mpr ⟨lw_gg (lw_in4 (List.mem_of_getElem? (i := 201) rfl)) rfl, List.forall_mem_cons.mpr ⟨lw_gg (lw_in4 (List.mem_of_getElem? (i := 203) rfl)) rfl, List.forall_mem_cons.mpr ⟨lw_gg (lw_in4 (List.mem_of_getElem? (i := 205) rfl)) rfl, List.forall_mem_cons.mpr ⟨lw_gg (lw_in4 (List.mem_of_getElem? (i := 207) rfl)) rfl, List.forall_mem_cons.mpr ⟨lw_gg (lw_in4 (List.mem_of_getElem? (i := 209) rfl)) rfl, List.forall_mem_cons.mpr ⟨lw_gg (lw_in4 (List.mem_of_getElem? (i := 211) rfl)) rfl, List.forall_mem_cons.mpr ⟨lw_gg (lw_in4 (List.mem_of_getElem? (i := 213) rfl)) rfl, List.forall_mem_cons.mpr ⟨lw_gg (lw_in4 (List.mem_of_getElem? (i := 215) rfl)) rfl, List.forall_mem_cons.mpr ⟨lw_gg (lw_in4 (List.mem_of_getElem? (i := 217) rfl)) rfl, List.forall_mem_cons.mpr ⟨lw_gg (lw_in4 (List.mem_of_getElem? (i := 219) rfl)) rfl, List.forall_mem_cons.mpr ⟨lw_gg (lw_in4 (List.mem_of_getElem? (i := 221) rfl)) rfl, List.forall_mem_cons.mpr ⟨lw_gg (lw_in4 (List.mem_of_getElem? (i := 223) rfl)) rfl, List.forall_mem_cons.mpr ⟨lw_gg (lw_in4 (List.mem_of_getElem? (i := 225) rfl)) rfl, List.forall_mem_cons.mpr ⟨lw_gg (lw_in4 (List.mem_of_getElem? (i := 227) rfl)) rfl, List.forall_mem_cons.mpr ⟨lw_gg (lw_in4 (List.mem_of_getElem? (i := 229) rfl)) rfl, List.forall_mem_cons.mpr ⟨lw_gg (lw_in4 (List.mem_of_getElem? (i := 231) rfl)) rfl, List.forall_mem_cons.mpr ⟨lw_gg (lw_in4 (List.mem_of_getElem? (i := 233) rfl)) rfl, List.forall_mem_cons.mpr ⟨lw_gg (lw_in4 (List.mem_of_getElem? (i := 235) rfl)) rfl, List.forall_mem_cons.mpr ⟨lw_gg (lw_in4 (List.mem_of_getElem? (i := 237) rfl)) rfl, List.forall_mem_cons.mpr ⟨lw_gg (lw_in4 (List.mem_of_getElem? (i := 239) rfl)) rfl, List.forall_mem_cons.mpr ⟨lw_gg (lw_in5 (List.mem_of_getElem? (i := 1) rfl)) rfl, List.forall_mem_cons.mpr ⟨lw_gg (lw_in5 (List.mem_of_getElem? (i := 3) rfl)) rfl, List.forall_mem_cons.mpr ⟨lw_gg (lw_in5 (List.mem_of_getElem? (i := 5) rfl)) rfl, List.forall_mem_cons.mpr ⟨lw_gg (lw_in5 (List.mem_of_getElem? (i := 7) rfl)) rfl, List.forall_mem_cons.mpr ⟨lw_gg (lw_in5 (List.mem_of_getElem? (i := 9) rfl)) rfl, List.forall_mem_cons.mpr ⟨lw_gg (lw_in5 (List.mem_of_getElem? (i := 11) rfl)) rfl, List.forall_mem_cons.mpr ⟨lw_gg (lw_in5 (List.mem_of_getElem? (i := 13) rfl)) rfl, List.forall_mem_cons.mpr ⟨lw_gg (lw_in5 (List.mem_of_getElem? (i := 15) rfl)) rfl, List.forall_mem_cons.mpr ⟨lw_gg (lw_in5 (List.mem_of_getElem? (i := 17) rfl)) rfl, List.forall_mem_cons.mpr ⟨lw_gg (lw_in5 (List.mem_of_getElem? (i := 19) rfl)) rfl, List.forall_mem_cons.mpr ⟨lw_gg (lw_in5 (List.mem_of_getElem? (i := 21) rfl)) rfl, List.forall_mem_cons.mpr ⟨lw_gg (lw_in5 (List.mem_of_getElem? (i := 23) rfl)) rfl, List.forall_mem_cons.mpr ⟨lw_gg (lw_in5 (List.mem_of_getElem? (i := 25) rfl)) rfl, List.forall_mem_cons.mpr ⟨lw_gg (lw_in5 (List.mem_of_getElem? (i := 27) rfl)) rfl, List.forall_mem_cons.mpr ⟨lw_gg (lw_in5 (List.mem_of_getElem? (i := 29) rfl)) rfl, List.forall_mem_cons.mpr ⟨lw_gg (lw_in5 (List.mem_of_getElem? (i := 31) rfl)) rfl, List.forall_mem_cons.mpr ⟨lw_gg (lw_in5 (List.mem_of_getElem? (i := 33) rfl)) rfl, List.forall_mem_cons.mpr ⟨lw_gg (lw_in5 (List.mem_of_getElem? (i := 35) rfl)) rfl, List.forall_mem_cons.mpr ⟨lw_gg (lw_in5 (List.mem_of_getElem? (i := 37) rfl)) rfl, fun _ h => absurd h List.not_mem_nil⟩⟩⟩⟩⟩⟩⟩⟩⟩⟩⟩⟩⟩⟩⟩⟩⟩⟩⟩⟩⟩⟩⟩⟩⟩⟩⟩⟩⟩⟩⟩⟩⟩⟩⟩⟩⟩⟩⟩⟩⟩⟩⟩⟩⟩⟩⟩⟩⟩⟩⟩⟩
def lw_nest : List Cond := [Cond.methodLinkNest RX3 25 yX11_within "EngineCell", Cond.methodLinkNest RX6 19 yX11_within "EngineCell", Cond.methodLinkNest RX9 26 yX11_within "EngineCell", Cond.methodLinkNest RX2 35 yX11_within "EngineCell", Cond.methodLinkNest RX8 130 yX11_within "EngineCell", Cond.methodLinkNest RX5 19 yX11_within "EngineCell", Cond.methodLinkNest RX10 28 yX11_within "EngineCell", Cond.methodLinkNest RX7 38 yX11_within "EngineCell"]
theorem nhN_X3_25 : Cond.methodLinkNest RX3 25 yX11_within "EngineCell" ∈ lw_nest := List.mem_of_getElem? (i := 0) rfl
theorem nhN_X6_19 : Cond.methodLinkNest RX6 19 yX11_within "EngineCell" ∈ lw_nest := List.mem_of_getElem? (i := 1) rfl
theorem nhN_X9_26 : Cond.methodLinkNest RX9 26 yX11_within "EngineCell" ∈ lw_nest := List.mem_of_getElem? (i := 2) rfl
theorem nhN_X2_35 : Cond.methodLinkNest RX2 35 yX11_within "EngineCell" ∈ lw_nest := List.mem_of_getElem? (i := 3) rfl
theorem nhN_X8_130 : Cond.methodLinkNest RX8 130 yX11_within "EngineCell" ∈ lw_nest := List.mem_of_getElem? (i := 4) rfl
theorem nhN_X5_19 : Cond.methodLinkNest RX5 19 yX11_within "EngineCell" ∈ lw_nest := List.mem_of_getElem? (i := 5) rfl
theorem nhN_X10_28 : Cond.methodLinkNest RX10 28 yX11_within "EngineCell" ∈ lw_nest := List.mem_of_getElem? (i := 6) rfl
theorem nhN_X7_38 : Cond.methodLinkNest RX7 38 yX11_within "EngineCell" ∈ lw_nest := List.mem_of_getElem? (i := 7) rfl
theorem lw_nest_ok : ∀ w ∈ lw_nest, w ∈ lw_tbl := by
  show ∀ w ∈ [Cond.methodLinkNest RX3 25 yX11_within "EngineCell", Cond.methodLinkNest RX6 19 yX11_within "EngineCell", Cond.methodLinkNest RX9 26 yX11_within "EngineCell", Cond.methodLinkNest RX2 35 yX11_within "EngineCell", Cond.methodLinkNest RX8 130 yX11_within "EngineCell", Cond.methodLinkNest RX5 19 yX11_within "EngineCell", Cond.methodLinkNest RX10 28 yX11_within "EngineCell", Cond.methodLinkNest RX7 38 yX11_within "EngineCell"], w ∈ lw_tbl
  exact List.forall_mem_cons.mpr ⟨hN_X3_25, List.forall_mem_cons.mpr ⟨hN_X6_19, List.forall_mem_cons.mpr ⟨hN_X9_26, List.forall_mem_cons.mpr ⟨hN_X2_35, List.forall_mem_cons.mpr ⟨hN_X8_130, List.forall_mem_cons.mpr ⟨hN_X5_19, List.forall_mem_cons.mpr ⟨hN_X10_28, List.forall_mem_cons.mpr ⟨hN_X7_38, fun _ h => absurd h List.not_mem_nil⟩⟩⟩⟩⟩⟩⟩⟩
theorem lw_nest_tab : ∀ w ∈ lw_nest, w.onTables = true := by
  intro w h
  exact List.all_eq_true.mp (show lw_nest.all Cond.onTables = true from rfl) w h
theorem lw_good : ∀ w ∈ lw_g, (w.onTables && w.keeps) = true ∨ ∃ ty, w = .arrayClass ty := fun w h => good_of_word (List.mem_filter.mp h).2
theorem lw_g_tbl : ∀ w ∈ lw_g, w ∈ lw_tbl := fun w h => (List.mem_filter.mp h).1
end
section
/-! THE JUDGEMENT: a walk of a method over a memory of numbered objects. A state of the heap is Mem: for each object (or array) its ints, its longs. 'ids' the numbers, 'ad' their addresses, 'ent' what a cell holds. -/
abbrev Mem : Type := (Nat → Nat → Int32) × (Nat → Nat → Int64)
abbrev EntT : Type := Nat → (Nat → Int32) → (Nat → Int64) → va_E
def wl (ids : List Nat) (ad : Nat → Nat) (ent : EntT) (σ : Mem) : va_W := ids.map fun o => (ad o, ent o (σ.1 o) (σ.2 o))
def wI (σ : Mem) (o k : Nat) (x : Int32) : Mem := (fun o' => if o' = o then upd (σ.1 o) k x else σ.1 o', σ.2)
def wJ (σ : Mem) (o k : Nat) (x : Int64) : Mem := (σ.1, fun o' => if o' = o then vp_updL (σ.2 o) k x else σ.2 o')
def AX (ids : List Nat) (ad : Nat → Nat) (sz : Nat) : Nat → Prop := fun q => (∃ o, o ∈ ids ∧ ad o = q) ∨ sz ≤ q
theorem wl_at {ids : List Nat} {ad : Nat → Nat} {ent : EntT} (σ : Mem) {o : Nat} (h : o ∈ ids) : ∃ k : Nat, (wl ids ad ent σ)[k]? = some (ad o, ent o (σ.1 o) (σ.2 o)) := by
  obtain ⟨k, hk⟩ := List.getElem?_of_mem h
  exact ⟨k, by simp [wl, List.getElem?_map, hk]⟩
theorem wl_in {ids : List Nat} {ad : Nat → Nat} {ent : EntT} {σ : Mem} {k : Nat} {q : Nat × va_E} (h : (wl ids ad ent σ)[k]? = some q) : ∃ o, o ∈ ids ∧ ids[k]? = some o ∧ q = (ad o, ent o (σ.1 o) (σ.2 o)) := by
  simp only [wl, List.getElem?_map] at h
  cases hk : ids[k]? with
  | none => rw [hk] at h; cases h
  | some o => rw [hk] at h; exact ⟨o, List.mem_of_getElem? hk, rfl, (Option.some.inj h).symm⟩
/-- one place of the world is set: the world of the new memory -/
theorem wl_set {ids : List Nat} {ad : Nat → Nat} {ent : EntT} {σ σ' : Mem} {A : Nat → Prop} (hD : va_D A (wl ids ad ent σ)) {o k : Nat} {e : va_E} (ho : o ∈ ids) (hk : (wl ids ad ent σ)[k]? = some (ad o, ent o (σ.1 o) (σ.2 o))) (he : ent o (σ'.1 o) (σ'.2 o) = e) (hn : ∀ o', o' ≠ o → σ'.1 o' = σ.1 o' ∧ σ'.2 o' = σ.2 o') : (wl ids ad ent σ).set k (ad o, e) = wl ids ad ent σ' := by
  obtain ⟨k0, h0⟩ := List.getElem?_of_mem ho
  have hk0 : (wl ids ad ent σ)[k0]? = some (ad o, ent o (σ.1 o) (σ.2 o)) := by simp [wl, List.getElem?_map, h0]
  have hkk : k = k0 := hD.1 k k0 _ _ hk hk0 rfl
  subst hkk
  apply List.ext_getElem?
  intro j
  by_cases hj : j = k
  · subst hj
    have hlt : j < (wl ids ad ent σ).length := (List.getElem?_eq_some_iff.mp hk).1
    rw [List.getElem?_set_self hlt]
    simp [wl, List.getElem?_map, h0, he]
  · rw [List.getElem?_set_ne (Ne.symm hj)]
    simp only [wl, List.getElem?_map]
    cases hoj : ids[j]? with
    | none => rfl
    | some o' =>
      have hne : o' ≠ o := by
        intro e'
        subst e'
        have hj0 : (wl ids ad ent σ)[j]? = some (ad o', ent o' (σ.1 o') (σ.2 o')) := by simp [wl, List.getElem?_map, hoj]
        exact hj (hD.1 j k _ _ hj0 hk rfl)
      obtain ⟨e1, e2⟩ := hn o' hne
      simp only [Option.map_some, e1, e2]
theorem wI_o (σ : Mem) (o k : Nat) (x : Int32) : (wI σ o k x).1 o = upd (σ.1 o) k x := by simp [wI]
theorem wI_2 (σ : Mem) (o k : Nat) (x : Int32) : (wI σ o k x).2 = σ.2 := rfl
theorem wI_ne (σ : Mem) {o o' : Nat} (k : Nat) (x : Int32) (h : o' ≠ o) : (wI σ o k x).1 o' = σ.1 o' := by simp [wI, h]
theorem wJ_o (σ : Mem) (o k : Nat) (x : Int64) : (wJ σ o k x).2 o = vp_updL (σ.2 o) k x := by simp [wJ]
theorem wJ_1 (σ : Mem) (o k : Nat) (x : Int64) : (wJ σ o k x).1 = σ.1 := rfl
theorem wJ_ne (σ : Mem) {o o' : Nat} (k : Nat) (x : Int64) (h : o' ≠ o) : (wJ σ o k x).2 o' = σ.2 o' := by simp [wJ, h]
-- the words of a program over the memory
def lete {α ρ : Type} (x : α) (k : α → Option ρ) : Option ρ := k x
def chk {ρ : Type} (b : Bool) (k : Option ρ) : Option ρ := if b = true then k else none
def bindo {α ρ : Type} (x : Option α) (k : α → Option ρ) : Option ρ := match x with | none => none | some a => k a
def caseo {ρ : Type} (o : Option Nat) (n : Option ρ) (k : Nat → Option ρ) : Option ρ := match o with | none => n | some a => k a
def loopF {α ρ : Type} (body : (α → Option ρ) → α → Option ρ) : Nat → α → Option ρ
  | 0, _ => none
  | f + 1, x => body (loopF body f) x
def inb (i : Int32) (n : Nat) : Bool := decide (0 ≤ i.toInt) && decide (i.toInt < n)
def ix (i : Int32) : Nat := i.toNatClampNeg
def nz (i : Int32) : Bool := !decide (i = 0)
def nzL (i : Int64) : Bool := !decide (i = 0)
def isZ (i : Int32) : Bool := decide (i = 0) || decide (i = 1)
theorem inb_in {i : Int32} {n : Nat} (h : inb i n = true) : vp_in i n := by
  simp only [inb, Bool.and_eq_true, decide_eq_true_eq] at h
  exact vp_in_iff.mpr h
theorem nz_ne {i : Int32} (h : nz i = true) : ¬ i = 0 := by
  simpa [nz] using h
theorem nzL_ne {i : Int64} (h : nzL i = true) : ¬ i = 0 := by
  simpa [nzL] using h
theorem isZ_n {i : Int32} (h : isZ i = true) : narrow .boolean (.int i) = .int i := by
  simp only [isZ, Bool.or_eq_true, decide_eq_true_eq] at h
  rcases h with rfl | rfl <;> rfl
-- the surroundings of a walk, in one
abbrev EnvT : Type := Program × Launch × Env × Room × State × MethodId × Array Value × List Frame × Method × Code × (State → Prop) × (Nat → Prop) × va_G × List (ClassId × FieldType) × List Nat × (Nat → Nat) × EntT
def eAd (E : EnvT) : Nat → Nat := match E with | (_, _, _, _, _, _, _, _, _, _, _, _, _, _, _, ad, _) => ad
def eIds (E : EnvT) : List Nat := match E with | (_, _, _, _, _, _, _, _, _, _, _, _, _, _, ids, _, _) => ids
def eEnt (E : EnvT) : EntT := match E with | (_, _, _, _, _, _, _, _, _, _, _, _, _, _, _, _, ent) => ent
def eTys (E : EnvT) : List (ClassId × FieldType) := match E with | (_, _, _, _, _, _, _, _, _, _, _, _, _, tys, _, _, _) => tys
def eD (E : EnvT) : va_G := match E with | (_, _, _, _, _, _, _, _, _, _, _, _, D, _, _, _, _) => D
def eL (E : EnvT) : Launch := match E with | (_, l, _, _, _, _, _, _, _, _, _, _, _, _, _, _, _) => l
def G (E : EnvT) (nL kc ks : Nat) (σ : Mem) (pc : Nat) (lv : List (Nat × Value)) (st : List Value) : Prop := match E with
  | (p, l, e, R, s, m, args, below, meth, c, Q, A, D, _, ids, ad, ent) => ∀ (H : Heap) (locs : List Loc) (ls : Array Slot), va_P D vwCl (wl ids ad ent σ) H → va_D A (wl ids ad ent σ) → va_S A s.heap H locs → lv_has ls nL lv → W p l e R s m args below meth c H locs kc ks Q (F0 m pc ls st)
def J {ρ : Type} (E : EnvT) (nL kc ks : Nat) (r0 : ρ) (b : Option ρ) (σ : Mem) (pc : Nat) (lv : List (Nat × Value)) (st : List Value) : Prop := b = some r0 → G E nL kc ks σ pc lv st
def NW (U : State) : Prop := ∀ w ∈ lw_nest, va_Nw w U
theorem NW.same {u U : State} (h : u.vm = U.vm) (hN : NW u) : NW U := fun w hw => va_Nw.same (lw_nest_tab w hw) h (hN w hw)
def CX (E : EnvT) (cc : ByteArray) (own : String) (nL : Nat) (rm : Room) : Prop := match E with
  | (p, _, _, R, s, m, args, _, meth, c, _, A, D, tys, ids, ad, _) => p.tables.exec = Jvm.exec ∧ c.code = cc ∧ c.maxLocals = nL ∧ s.vm.findClass own = some m.cls ∧ (∀ w ∈ lw_g, w.before args s = true) ∧ va_K D vwCl tys s ∧ NW s ∧ R = rm ∧ (∀ q : Nat, s.heap.size ≤ q → A q) ∧ meth.locks = false ∧ A = AX ids ad s.heap.size
def PX (D : va_G) (tys : List (ClassId × FieldType)) (ids : List Nat) (ad : Nat → Nat) (ent : EntT) (σ : Mem) (sz : Nat) : State → Prop := fun U => U.heap.size = sz ∧ va_P D vwCl (wl ids ad ent σ) U.heap ∧ va_K D vwCl tys U ∧ NW U ∧ va_D (fun _ => True) (wl ids ad ent σ)
def BX (D : va_G) (tys : List (ClassId × FieldType)) (ids : List Nat) (ad : Nat → Nat) (ent : EntT) (sz : Nat) : Mem → State → Prop := fun u t => va_P D vwCl (wl ids ad ent u) t.heap ∧ va_K D vwCl tys t ∧ va_D (AX ids ad sz) (wl ids ad ent u)
-- the four ends of a method: an int (boolean), a long, nothing, a reference or null
def RQi (r : Int32) (σ' : Mem) (D : va_G) (tys : List (ClassId × FieldType)) (ids : List Nat) (ad : Nat → Nat) (ent : EntT) (sz : Nat) : Array Value → State → Outcome → State → Prop := va_Qi (fun r' u => r' = r ∧ u = σ') (BX D tys ids ad ent sz) (AX ids ad sz)
def RQl (r : Int64) (σ' : Mem) (D : va_G) (tys : List (ClassId × FieldType)) (ids : List Nat) (ad : Nat → Nat) (ent : EntT) (sz : Nat) : Array Value → State → Outcome → State → Prop := va_Ql (fun r' u => r' = r ∧ u = σ') (BX D tys ids ad ent sz) (AX ids ad sz)
def RQv (σ' : Mem) (D : va_G) (tys : List (ClassId × FieldType)) (ids : List Nat) (ad : Nat → Nat) (ent : EntT) (sz : Nat) : Array Value → State → Outcome → State → Prop := va_Qv (fun u => u = σ') (BX D tys ids ad ent sz) (AX ids ad sz)
def RQq (r : Option Nat) (σ' : Mem) (D : va_G) (tys : List (ClassId × FieldType)) (ids : List Nat) (ad : Nat → Nat) (ent : EntT) (sz : Nat) : Array Value → State → Outcome → State → Prop := va_Qq (fun r' u => r' = r.map ad ∧ u = σ') (BX D tys ids ad ent sz) (AX ids ad sz)
abbrev RQT : Type := va_G → List (ClassId × FieldType) → List Nat → (Nat → Nat) → EntT → Nat → Array Value → State → Outcome → State → Prop
/-- the walk's own end is the contract's -/
def QE (E : EnvT) (kc ks : Nat) (rt : Option FieldType) (rq : RQT) : Prop := match E with
  | (_, _, _, _, s, _, args, below, meth, _, Q, A, D, tys, ids, ad, ent) => meth.sig.returnType = rt ∧ Q = MQ below (rq D tys ids ad ent s.heap.size) args s kc ks A
/-- a method's contract, over the memory of E -/
def CT (E : EnvT) (y : MethodName) (b : ByteArray) (nL : Nat) (rt : Option FieldType) (rm : Room) (As : List Value) (σ : Mem) (rq : RQT) : Prop := match E with
  | (_, l, _, _, _, _, _, _, _, _, _, _, D, tys, ids, ad, ent) => ∀ sz : Nat, Met l y (.code y b nL rt :: lw_g) rm (va_Pc As (PX D tys ids ad ent σ sz)) (rq D tys ids ad ent sz) 0 0 (AX ids ad sz)
theorem PX_blind {As : List Value} {D : va_G} {tys : List (ClassId × FieldType)} {ids : List Nat} {ad : Nat → Nat} {ent : EntT} {σ : Mem} {sz : Nat} : FrameBlind (va_Pc As (PX D tys ids ad ent σ sz)) := fun a U g mk q => by
  obtain ⟨q0, q1, qP, qK, qN, qD⟩ := q
  exact ⟨q0, q1, qP, va_K.moved (u := U) (U := U.calling g mk a) (Vm.Alike.refl U.vm) qK, NW.same (u := U) (U := U.calling g mk a) rfl qN, qD⟩
theorem wl_free {ids : List Nat} {ad : Nat → Nat} {ent : EntT} {σ : Mem} {A : Nat → Prop} (hD : va_D A (wl ids ad ent σ)) {sz : Nat} (hA : ∀ q, sz ≤ q → A q) : ∀ q, AX ids ad sz q → A q := by
  intro q h
  rcases h with ⟨o, ho, rfl⟩ | h
  · obtain ⟨k, hk⟩ := wl_at (ad := ad) (ent := ent) σ ho
    exact hD.2 k _ hk
  · exact hA q h
theorem wl_D {ids : List Nat} {ad : Nat → Nat} {ent : EntT} {σ σ' : Mem} {A B : Nat → Prop} (hD : va_D A (wl ids ad ent σ)) (hB : ∀ o, o ∈ ids → B (ad o)) : va_D B (wl ids ad ent σ') := by
  refine ⟨fun i j p q h1 h2 h3 => ?_, fun k q h => ?_⟩
  · obtain ⟨o1, m1, i1, rfl⟩ := wl_in h1
    obtain ⟨o2, m2, i2, rfl⟩ := wl_in h2
    exact hD.1 i j (ad o1, ent o1 (σ.1 o1) (σ.2 o1)) (ad o2, ent o2 (σ.1 o2) (σ.2 o2)) (by simp [wl, List.getElem?_map, i1]) (by simp [wl, List.getElem?_map, i2]) h3
  · obtain ⟨o, m1, -, rfl⟩ := wl_in h
    exact hB o m1
set_option maxHeartbeats 4000000 in
/-- a walk of the body gives the contract -/
theorem ct_of {D : va_G} {tys : List (ClassId × FieldType)} {ids : List Nat} {ad : Nat → Nat} {ent : EntT} {l : Launch} {y : MethodName} {b : ByteArray} {nL : Nat} {rt : Option FieldType} {rm : Room} {As : List Value} {σ : Mem} {rq : RQT} {mc ms : Nat} (hy : plainName y.cls = true) (hn : (lg_sl As).length ≤ nL)
    (hm : ∀ E : EnvT, eD E = D → eTys E = tys → eIds E = ids → eAd E = ad → eEnt E = ent → CX E b y.cls nL rm → QE E mc ms rt rq → G E nL 0 0 σ 0 (lv_args 0 As) []) (sz : Nat) :
    Met l y (.code y b nL rt :: lw_g) rm (va_Pc As (PX D tys ids ad ent σ sz)) (rq D tys ids ad ent sz) mc ms (AX ids ad sz) := by
  refine Met.ofW (cc := b) (maxL := nL) (ret := rt) hy rfl ?_
  intro p e s m args below meth c s₁ B hml hv
  obtain ⟨rfl, hsz, hP, hK, hN, hD0⟩ := hv
  have hts := atoms_spec (ws := .code y b nL rt :: lw_g) B.pre
  subst hsz
  have hD : va_D (AX ids ad s.heap.size) (wl ids ad ent σ) := wl_D hD0 (fun o ho => Or.inl ⟨o, ho, rfl⟩)
  have hl := lv_entry As (n := nL) hn
  rw [lg_entry_eq]
  exact hm (p, l, e, rm, s, m, As.toArray, below, meth, c, MQ below (rq D tys ids ad ent s.heap.size) As.toArray s mc ms (AX ids ad s.heap.size), AX ids ad s.heap.size, D, tys, ids, ad, ent) rfl rfl rfl rfl rfl
    ⟨B.exec, B.bytes, hml, findClass_of_methodNamed B.named, fun w h => hts w (List.mem_cons_of_mem _ h), hK, hN, rfl, fun q h => Or.inr h, B.notSynchronized, rfl⟩ ⟨B.returns, rfl⟩ s.heap [] _ hP hD va_S.rf hl
end
section
section ROWS
variable {E : EnvT} {cc : ByteArray} {own : String} {nL : Nat} {rm : Room} {kc ks : Nat} {ρ : Type} {r0 : ρ} {b b1 b2 : Option ρ} {σ : Mem} {pc : Nat} {lv lv' : List (Nat × Value)} {st : List Value}
theorem j_iadd (C : CX E cc own nL rm) {x y : Int32} (hd : decode cc pc = .ok (.iadd, 1)) (k : J E nL kc ks r0 b σ (pc + 1) lv (.int (x + y) :: st)) : J E nL kc ks r0 b σ pc lv (.int y :: .int x :: st) := by
  obtain ⟨p, l, e, R, s, m, args, below, meth, c, Q, A, D, tys, ids, ad, ent⟩ := E
  obtain ⟨hx, hb, hml, hown, hts, hK, hN, hR, hA, hlk, hAX⟩ := C
  exact fun h H locs ls hP hD hS hl => lv_iadd hx hb hd (k h H locs ls hP hD hS hl)
theorem j_isub (C : CX E cc own nL rm) {x y : Int32} (hd : decode cc pc = .ok (.isub, 1)) (k : J E nL kc ks r0 b σ (pc + 1) lv (.int (x - y) :: st)) : J E nL kc ks r0 b σ pc lv (.int y :: .int x :: st) := by
  obtain ⟨p, l, e, R, s, m, args, below, meth, c, Q, A, D, tys, ids, ad, ent⟩ := E
  obtain ⟨hx, hb, hml, hown, hts, hK, hN, hR, hA, hlk, hAX⟩ := C
  exact fun h H locs ls hP hD hS hl => lv_isub hx hb hd (k h H locs ls hP hD hS hl)
theorem j_imul (C : CX E cc own nL rm) {x y : Int32} (hd : decode cc pc = .ok (.imul, 1)) (k : J E nL kc ks r0 b σ (pc + 1) lv (.int (x * y) :: st)) : J E nL kc ks r0 b σ pc lv (.int y :: .int x :: st) := by
  obtain ⟨p, l, e, R, s, m, args, below, meth, c, Q, A, D, tys, ids, ad, ent⟩ := E
  obtain ⟨hx, hb, hml, hown, hts, hK, hN, hR, hA, hlk, hAX⟩ := C
  exact fun h H locs ls hP hD hS hl => lv_imul hx hb hd (k h H locs ls hP hD hS hl)
theorem j_iand (C : CX E cc own nL rm) {x y : Int32} (hd : decode cc pc = .ok (.iand, 1)) (k : J E nL kc ks r0 b σ (pc + 1) lv (.int (x &&& y) :: st)) : J E nL kc ks r0 b σ pc lv (.int y :: .int x :: st) := by
  obtain ⟨p, l, e, R, s, m, args, below, meth, c, Q, A, D, tys, ids, ad, ent⟩ := E
  obtain ⟨hx, hb, hml, hown, hts, hK, hN, hR, hA, hlk, hAX⟩ := C
  exact fun h H locs ls hP hD hS hl => lv_iand hx hb hd (k h H locs ls hP hD hS hl)
theorem j_ior (C : CX E cc own nL rm) {x y : Int32} (hd : decode cc pc = .ok (.ior, 1)) (k : J E nL kc ks r0 b σ (pc + 1) lv (.int (x ||| y) :: st)) : J E nL kc ks r0 b σ pc lv (.int y :: .int x :: st) := by
  obtain ⟨p, l, e, R, s, m, args, below, meth, c, Q, A, D, tys, ids, ad, ent⟩ := E
  obtain ⟨hx, hb, hml, hown, hts, hK, hN, hR, hA, hlk, hAX⟩ := C
  exact fun h H locs ls hP hD hS hl => lv_ior hx hb hd (k h H locs ls hP hD hS hl)
theorem j_ixor (C : CX E cc own nL rm) {x y : Int32} (hd : decode cc pc = .ok (.ixor, 1)) (k : J E nL kc ks r0 b σ (pc + 1) lv (.int (x ^^^ y) :: st)) : J E nL kc ks r0 b σ pc lv (.int y :: .int x :: st) := by
  obtain ⟨p, l, e, R, s, m, args, below, meth, c, Q, A, D, tys, ids, ad, ent⟩ := E
  obtain ⟨hx, hb, hml, hown, hts, hK, hN, hR, hA, hlk, hAX⟩ := C
  exact fun h H locs ls hP hD hS hl => lv_ixor hx hb hd (k h H locs ls hP hD hS hl)
theorem j_ladd (C : CX E cc own nL rm) {x y : Int64} (hd : decode cc pc = .ok (.ladd, 1)) (k : J E nL kc ks r0 b σ (pc + 1) lv (.long (x + y) :: st)) : J E nL kc ks r0 b σ pc lv (.long y :: .long x :: st) := by
  obtain ⟨p, l, e, R, s, m, args, below, meth, c, Q, A, D, tys, ids, ad, ent⟩ := E
  obtain ⟨hx, hb, hml, hown, hts, hK, hN, hR, hA, hlk, hAX⟩ := C
  exact fun h H locs ls hP hD hS hl => lv_ladd hx hb hd (k h H locs ls hP hD hS hl)
theorem j_lsub (C : CX E cc own nL rm) {x y : Int64} (hd : decode cc pc = .ok (.lsub, 1)) (k : J E nL kc ks r0 b σ (pc + 1) lv (.long (x - y) :: st)) : J E nL kc ks r0 b σ pc lv (.long y :: .long x :: st) := by
  obtain ⟨p, l, e, R, s, m, args, below, meth, c, Q, A, D, tys, ids, ad, ent⟩ := E
  obtain ⟨hx, hb, hml, hown, hts, hK, hN, hR, hA, hlk, hAX⟩ := C
  exact fun h H locs ls hP hD hS hl => lv_lsub hx hb hd (k h H locs ls hP hD hS hl)
theorem j_lmul (C : CX E cc own nL rm) {x y : Int64} (hd : decode cc pc = .ok (.lmul, 1)) (k : J E nL kc ks r0 b σ (pc + 1) lv (.long (x * y) :: st)) : J E nL kc ks r0 b σ pc lv (.long y :: .long x :: st) := by
  obtain ⟨p, l, e, R, s, m, args, below, meth, c, Q, A, D, tys, ids, ad, ent⟩ := E
  obtain ⟨hx, hb, hml, hown, hts, hK, hN, hR, hA, hlk, hAX⟩ := C
  exact fun h H locs ls hP hD hS hl => lv_lmul hx hb hd (k h H locs ls hP hD hS hl)
theorem j_lcmp (C : CX E cc own nL rm) {x y : Int64} (hd : decode cc pc = .ok (.lcmp, 1)) (k : J E nL kc ks r0 b σ (pc + 1) lv (.int (lg_cmp x y) :: st)) : J E nL kc ks r0 b σ pc lv (.long y :: .long x :: st) := by
  obtain ⟨p, l, e, R, s, m, args, below, meth, c, Q, A, D, tys, ids, ad, ent⟩ := E
  obtain ⟨hx, hb, hml, hown, hts, hK, hN, hR, hA, hlk, hAX⟩ := C
  exact fun h H locs ls hP hD hS hl => W.lcmp hx hb hd (k h H locs ls hP hD hS hl)
theorem j_idivK (C : CX E cc own nL rm) {x y : Int32} (hd : decode cc pc = .ok (.idiv, 1)) (hne : ¬ y = 0) (k : J E nL kc ks r0 b σ (pc + 1) lv (.int (x / y) :: st)) : J E nL kc ks r0 b σ pc lv (.int y :: .int x :: st) := by
  obtain ⟨p, l, e, R, s, m, args, below, meth, c, Q, A, D, tys, ids, ad, ent⟩ := E
  obtain ⟨hx, hb, hml, hown, hts, hK, hN, hR, hA, hlk, hAX⟩ := C
  exact fun h H locs ls hP hD hS hl => lv_idiv hx hb hd hne (k h H locs ls hP hD hS hl)
theorem j_idiv (C : CX E cc own nL rm) {x y : Int32} (hd : decode cc pc = .ok (.idiv, 1)) (k : J E nL kc ks r0 b σ (pc + 1) lv (.int (x / y) :: st)) : J E nL kc ks r0 (chk (nz y) b) σ pc lv (.int y :: .int x :: st) := by
  intro h
  unfold chk at h
  split at h
  · exact j_idivK C hd (nz_ne (by assumption)) k h
  · cases h
theorem j_iremK (C : CX E cc own nL rm) {x y : Int32} (hd : decode cc pc = .ok (.irem, 1)) (hne : ¬ y = 0) (k : J E nL kc ks r0 b σ (pc + 1) lv (.int (x - x / y * y) :: st)) : J E nL kc ks r0 b σ pc lv (.int y :: .int x :: st) := by
  obtain ⟨p, l, e, R, s, m, args, below, meth, c, Q, A, D, tys, ids, ad, ent⟩ := E
  obtain ⟨hx, hb, hml, hown, hts, hK, hN, hR, hA, hlk, hAX⟩ := C
  exact fun h H locs ls hP hD hS hl => lv_irem hx hb hd hne (k h H locs ls hP hD hS hl)
theorem j_irem (C : CX E cc own nL rm) {x y : Int32} (hd : decode cc pc = .ok (.irem, 1)) (k : J E nL kc ks r0 b σ (pc + 1) lv (.int (x - x / y * y) :: st)) : J E nL kc ks r0 (chk (nz y) b) σ pc lv (.int y :: .int x :: st) := by
  intro h
  unfold chk at h
  split at h
  · exact j_iremK C hd (nz_ne (by assumption)) k h
  · cases h
theorem j_ldivK (C : CX E cc own nL rm) {x y : Int64} (hd : decode cc pc = .ok (.ldiv, 1)) (hne : ¬ y = 0) (k : J E nL kc ks r0 b σ (pc + 1) lv (.long (x / y) :: st)) : J E nL kc ks r0 b σ pc lv (.long y :: .long x :: st) := by
  obtain ⟨p, l, e, R, s, m, args, below, meth, c, Q, A, D, tys, ids, ad, ent⟩ := E
  obtain ⟨hx, hb, hml, hown, hts, hK, hN, hR, hA, hlk, hAX⟩ := C
  exact fun h H locs ls hP hD hS hl => lv_ldiv hx hb hd hne (k h H locs ls hP hD hS hl)
theorem j_ldiv (C : CX E cc own nL rm) {x y : Int64} (hd : decode cc pc = .ok (.ldiv, 1)) (k : J E nL kc ks r0 b σ (pc + 1) lv (.long (x / y) :: st)) : J E nL kc ks r0 (chk (nzL y) b) σ pc lv (.long y :: .long x :: st) := by
  intro h
  unfold chk at h
  split at h
  · exact j_ldivK C hd (nzL_ne (by assumption)) k h
  · cases h
theorem j_i2l (C : CX E cc own nL rm) {x : Int32} (hd : decode cc pc = .ok (.i2l, 1)) (k : J E nL kc ks r0 b σ (pc + 1) lv (.long x.toInt64 :: st)) : J E nL kc ks r0 b σ pc lv (.int x :: st) := by
  obtain ⟨p, l, e, R, s, m, args, below, meth, c, Q, A, D, tys, ids, ad, ent⟩ := E
  obtain ⟨hx, hb, hml, hown, hts, hK, hN, hR, hA, hlk, hAX⟩ := C
  exact fun h H locs ls hP hD hS hl => lv_i2l hx hb hd rfl (k h H locs ls hP hD hS hl)
theorem j_l2i (C : CX E cc own nL rm) {x : Int64} (hd : decode cc pc = .ok (.l2i, 1)) (k : J E nL kc ks r0 b σ (pc + 1) lv (.int x.toInt32 :: st)) : J E nL kc ks r0 b σ pc lv (.long x :: st) := by
  obtain ⟨p, l, e, R, s, m, args, below, meth, c, Q, A, D, tys, ids, ad, ent⟩ := E
  obtain ⟨hx, hb, hml, hown, hts, hK, hN, hR, hA, hlk, hAX⟩ := C
  exact fun h H locs ls hP hD hS hl => lv_l2i hx hb hd rfl (k h H locs ls hP hD hS hl)
theorem j_i2b (C : CX E cc own nL rm) {x : Int32} (hd : decode cc pc = .ok (.i2b, 1)) (k : J E nL kc ks r0 b σ (pc + 1) lv (.int x.toInt8.toInt32 :: st)) : J E nL kc ks r0 b σ pc lv (.int x :: st) := by
  obtain ⟨p, l, e, R, s, m, args, below, meth, c, Q, A, D, tys, ids, ad, ent⟩ := E
  obtain ⟨hx, hb, hml, hown, hts, hK, hN, hR, hA, hlk, hAX⟩ := C
  exact fun h H locs ls hP hD hS hl => lv_i2b hx hb hd rfl (k h H locs ls hP hD hS hl)
theorem j_i2s (C : CX E cc own nL rm) {x : Int32} (hd : decode cc pc = .ok (.i2s, 1)) (k : J E nL kc ks r0 b σ (pc + 1) lv (.int x.toInt16.toInt32 :: st)) : J E nL kc ks r0 b σ pc lv (.int x :: st) := by
  obtain ⟨p, l, e, R, s, m, args, below, meth, c, Q, A, D, tys, ids, ad, ent⟩ := E
  obtain ⟨hx, hb, hml, hown, hts, hK, hN, hR, hA, hlk, hAX⟩ := C
  exact fun h H locs ls hP hD hS hl => lv_i2s hx hb hd rfl (k h H locs ls hP hD hS hl)
theorem j_iconst (C : CX E cc own nL rm) {n : Int} (v : Int32) (hd : decode cc pc = .ok (.iconst n, 1)) (hv : Int32.ofInt n = v) (k : J E nL kc ks r0 b σ (pc + 1) lv (.int v :: st)) : J E nL kc ks r0 b σ pc lv st := by
  obtain ⟨p, l, e, R, s, m, args, below, meth, c, Q, A, D, tys, ids, ad, ent⟩ := E
  obtain ⟨hx, hb, hml, hown, hts, hK, hN, hR, hA, hlk, hAX⟩ := C
  exact fun h H locs ls hP hD hS hl => lv_iconst hx hb hd hv (k h H locs ls hP hD hS hl)
theorem j_bipush (C : CX E cc own nL rm) {n : Int} (v : Int32) (hd : decode cc pc = .ok (.bipush n, 2)) (hv : (Int8.ofInt n).toInt32 = v) (k : J E nL kc ks r0 b σ (pc + 2) lv (.int v :: st)) : J E nL kc ks r0 b σ pc lv st := by
  obtain ⟨p, l, e, R, s, m, args, below, meth, c, Q, A, D, tys, ids, ad, ent⟩ := E
  obtain ⟨hx, hb, hml, hown, hts, hK, hN, hR, hA, hlk, hAX⟩ := C
  exact fun h H locs ls hP hD hS hl => lv_bipush hx hb hd hv (k h H locs ls hP hD hS hl)
theorem j_sipush (C : CX E cc own nL rm) {n : Int} (v : Int32) (hd : decode cc pc = .ok (.sipush n, 3)) (hv : (Int16.ofInt n).toInt32 = v) (k : J E nL kc ks r0 b σ (pc + 3) lv (.int v :: st)) : J E nL kc ks r0 b σ pc lv st := by
  obtain ⟨p, l, e, R, s, m, args, below, meth, c, Q, A, D, tys, ids, ad, ent⟩ := E
  obtain ⟨hx, hb, hml, hown, hts, hK, hN, hR, hA, hlk, hAX⟩ := C
  exact fun h H locs ls hP hD hS hl => lv_sipush hx hb hd hv (k h H locs ls hP hD hS hl)
theorem j_lconst (C : CX E cc own nL rm) {n : Fin 2} (v : Int64) (hd : decode cc pc = .ok (.lconst n, 1)) (hv : Int64.ofNat (n : Nat) = v) (k : J E nL kc ks r0 b σ (pc + 1) lv (.long v :: st)) : J E nL kc ks r0 b σ pc lv st := by
  obtain ⟨p, l, e, R, s, m, args, below, meth, c, Q, A, D, tys, ids, ad, ent⟩ := E
  obtain ⟨hx, hb, hml, hown, hts, hK, hN, hR, hA, hlk, hAX⟩ := C
  exact fun h H locs ls hP hD hS hl => lv_lconst hx hb hd hv (k h H locs ls hP hD hS hl)
theorem j_ldc2 (C : CX E cc own nL rm) {i : Nat} {v : Int64} (hc : Cond.constantLong own i v ∈ lw_g) (hd : decode cc pc = .ok (.ldc2_w i, 3)) (k : J E nL kc ks r0 b σ (pc + 3) lv (.long v :: st)) : J E nL kc ks r0 b σ pc lv st := by
  obtain ⟨p, l, e, R, s, m, args, below, meth, c, Q, A, D, tys, ids, ad, ent⟩ := E
  obtain ⟨hx, hb, hml, hown, hts, hK, hN, hR, hA, hlk, hAX⟩ := C
  exact fun h H locs ls hP hD hS hl => lv_ldc2 hx hb hown (hts _ hc) hd (k h H locs ls hP hD hS hl)
theorem j_iload_n (C : CX E cc own nL rm) {i : Fin 4} {x : Int32} (hd : decode cc pc = .ok (.iload_n i, 1)) (q : Nat) (hq : lv[q]? = some ((i : Nat), .int x)) (k : J E nL kc ks r0 b σ (pc + 1) lv (.int x :: st)) : J E nL kc ks r0 b σ pc lv st := by
  obtain ⟨p, l, e, R, s, m, args, below, meth, c, Q, A, D, tys, ids, ad, ent⟩ := E
  obtain ⟨hx, hb, hml, hown, hts, hK, hN, hR, hA, hlk, hAX⟩ := C
  exact fun h H locs ls hP hD hS hl => lv_iload_n hx hb hd rfl (lv_at hl q hq) (k h H locs ls hP hD hS hl)
theorem j_iload (C : CX E cc own nL rm) {i : Nat} {x : Int32} (hd : decode cc pc = .ok (.iload i, 2)) (q : Nat) (hq : lv[q]? = some (i, .int x)) (k : J E nL kc ks r0 b σ (pc + 2) lv (.int x :: st)) : J E nL kc ks r0 b σ pc lv st := by
  obtain ⟨p, l, e, R, s, m, args, below, meth, c, Q, A, D, tys, ids, ad, ent⟩ := E
  obtain ⟨hx, hb, hml, hown, hts, hK, hN, hR, hA, hlk, hAX⟩ := C
  exact fun h H locs ls hP hD hS hl => lv_iload hx hb hd (lv_at hl q hq) (k h H locs ls hP hD hS hl)
theorem j_lload_n (C : CX E cc own nL rm) {i : Fin 4} {x : Int64} (hd : decode cc pc = .ok (.lload_n i, 1)) (q : Nat) (hq : lv[q]? = some ((i : Nat), .long x)) (k : J E nL kc ks r0 b σ (pc + 1) lv (.long x :: st)) : J E nL kc ks r0 b σ pc lv st := by
  obtain ⟨p, l, e, R, s, m, args, below, meth, c, Q, A, D, tys, ids, ad, ent⟩ := E
  obtain ⟨hx, hb, hml, hown, hts, hK, hN, hR, hA, hlk, hAX⟩ := C
  exact fun h H locs ls hP hD hS hl => lv_lload_n hx hb hd rfl (lv_at hl q hq) (k h H locs ls hP hD hS hl)
theorem j_lload (C : CX E cc own nL rm) {i : Nat} {x : Int64} (hd : decode cc pc = .ok (.lload i, 2)) (q : Nat) (hq : lv[q]? = some (i, .long x)) (k : J E nL kc ks r0 b σ (pc + 2) lv (.long x :: st)) : J E nL kc ks r0 b σ pc lv st := by
  obtain ⟨p, l, e, R, s, m, args, below, meth, c, Q, A, D, tys, ids, ad, ent⟩ := E
  obtain ⟨hx, hb, hml, hown, hts, hK, hN, hR, hA, hlk, hAX⟩ := C
  exact fun h H locs ls hP hD hS hl => lv_lload hx hb hd (lv_at hl q hq) (k h H locs ls hP hD hS hl)
theorem j_aload_n (C : CX E cc own nL rm) {i : Fin 4} {x : Nat} (hd : decode cc pc = .ok (.aload_n i, 1)) (q : Nat) (hq : lv[q]? = some ((i : Nat), .ref x)) (k : J E nL kc ks r0 b σ (pc + 1) lv (.ref x :: st)) : J E nL kc ks r0 b σ pc lv st := by
  obtain ⟨p, l, e, R, s, m, args, below, meth, c, Q, A, D, tys, ids, ad, ent⟩ := E
  obtain ⟨hx, hb, hml, hown, hts, hK, hN, hR, hA, hlk, hAX⟩ := C
  exact fun h H locs ls hP hD hS hl => lv_aload_n hx hb hd rfl (lv_at hl q hq) (k h H locs ls hP hD hS hl)
theorem j_aload (C : CX E cc own nL rm) {i : Nat} {x : Nat} (hd : decode cc pc = .ok (.aload i, 2)) (q : Nat) (hq : lv[q]? = some (i, .ref x)) (k : J E nL kc ks r0 b σ (pc + 2) lv (.ref x :: st)) : J E nL kc ks r0 b σ pc lv st := by
  obtain ⟨p, l, e, R, s, m, args, below, meth, c, Q, A, D, tys, ids, ad, ent⟩ := E
  obtain ⟨hx, hb, hml, hown, hts, hK, hN, hR, hA, hlk, hAX⟩ := C
  exact fun h H locs ls hP hD hS hl => lv_aload hx hb hd (lv_at hl q hq) (k h H locs ls hP hD hS hl)
theorem j_aloadq_n (C : CX E cc own nL rm) {i : Fin 4} {o : Option Nat} (hd : decode cc pc = .ok (.aload_n i, 1)) (q : Nat) (hq : lv[q]? = some ((i : Nat), va_rf o)) (k : J E nL kc ks r0 b σ (pc + 1) lv (va_rf o :: st)) : J E nL kc ks r0 b σ pc lv st := by
  obtain ⟨p, l, e, R, s, m, args, below, meth, c, Q, A, D, tys, ids, ad, ent⟩ := E
  obtain ⟨hx, hb, hml, hown, hts, hK, hN, hR, hA, hlk, hAX⟩ := C
  cases o with
  | none => exact fun h H locs ls hP hD hS hl => lv_aload_nN hx hb hd rfl (lv_at hl q hq) (k h H locs ls hP hD hS hl)
  | some a => exact fun h H locs ls hP hD hS hl => lv_aload_n hx hb hd rfl (lv_at hl q hq) (k h H locs ls hP hD hS hl)
theorem j_aloadq (C : CX E cc own nL rm) {i : Nat} {o : Option Nat} (hd : decode cc pc = .ok (.aload i, 2)) (q : Nat) (hq : lv[q]? = some (i, va_rf o)) (k : J E nL kc ks r0 b σ (pc + 2) lv (va_rf o :: st)) : J E nL kc ks r0 b σ pc lv st := by
  obtain ⟨p, l, e, R, s, m, args, below, meth, c, Q, A, D, tys, ids, ad, ent⟩ := E
  obtain ⟨hx, hb, hml, hown, hts, hK, hN, hR, hA, hlk, hAX⟩ := C
  cases o with
  | none => exact fun h H locs ls hP hD hS hl => lv_aloadN hx hb hd (lv_at hl q hq) (k h H locs ls hP hD hS hl)
  | some a => exact fun h H locs ls hP hD hS hl => lv_aload hx hb hd (lv_at hl q hq) (k h H locs ls hP hD hS hl)
theorem j_istore_n (C : CX E cc own nL rm) {i : Fin 4} {x : Int32} (hd : decode cc pc = .ok (.istore_n i, 1)) (hn : (i : Nat) < nL) (hl' : ((i : Nat), Value.int x) :: lv.filter (fun q => !(q.1 == (i : Nat)) && !(q.1 + 1 == (i : Nat) && q.2.category == 2)) = lv') (k : J E nL kc ks r0 b σ (pc + 1) lv' st) : J E nL kc ks r0 b σ pc lv (.int x :: st) := by
  obtain ⟨p, l, e, R, s, m, args, below, meth, c, Q, A, D, tys, ids, ad, ent⟩ := E
  obtain ⟨hx, hb, hml, hown, hts, hK, hN, hR, hA, hlk, hAX⟩ := C
  exact fun h H locs ls hP hD hS hl => lv_istore_n hx hb hd rfl hl hn hl' (fun ls' hl => k h H locs ls' hP hD hS hl)
theorem j_istore (C : CX E cc own nL rm) {i : Nat} {x : Int32} (hd : decode cc pc = .ok (.istore i, 2)) (hn : i < nL) (hl' : (i, Value.int x) :: lv.filter (fun q => !(q.1 == i) && !(q.1 + 1 == i && q.2.category == 2)) = lv') (k : J E nL kc ks r0 b σ (pc + 2) lv' st) : J E nL kc ks r0 b σ pc lv (.int x :: st) := by
  obtain ⟨p, l, e, R, s, m, args, below, meth, c, Q, A, D, tys, ids, ad, ent⟩ := E
  obtain ⟨hx, hb, hml, hown, hts, hK, hN, hR, hA, hlk, hAX⟩ := C
  exact fun h H locs ls hP hD hS hl => lv_istore hx hb hd hl hn hl' (fun ls' hl => k h H locs ls' hP hD hS hl)
theorem j_lstore_n (C : CX E cc own nL rm) {i : Fin 4} {x : Int64} (hd : decode cc pc = .ok (.lstore_n i, 1)) (hn : (i : Nat) + 1 < nL) (hl' : ((i : Nat), Value.long x) :: lv.filter (fun q => !(q.1 == (i : Nat)) && (!(q.1 == (i : Nat) + 1) && !(q.1 + 1 == (i : Nat) && q.2.category == 2))) = lv') (k : J E nL kc ks r0 b σ (pc + 1) lv' st) : J E nL kc ks r0 b σ pc lv (.long x :: st) := by
  obtain ⟨p, l, e, R, s, m, args, below, meth, c, Q, A, D, tys, ids, ad, ent⟩ := E
  obtain ⟨hx, hb, hml, hown, hts, hK, hN, hR, hA, hlk, hAX⟩ := C
  exact fun h H locs ls hP hD hS hl => lv_lstore_n hx hb hd rfl hl hn hl' (fun ls' hl => k h H locs ls' hP hD hS hl)
theorem j_lstore (C : CX E cc own nL rm) {i : Nat} {x : Int64} (hd : decode cc pc = .ok (.lstore i, 2)) (hn : i + 1 < nL) (hl' : (i, Value.long x) :: lv.filter (fun q => !(q.1 == i) && (!(q.1 == i + 1) && !(q.1 + 1 == i && q.2.category == 2))) = lv') (k : J E nL kc ks r0 b σ (pc + 2) lv' st) : J E nL kc ks r0 b σ pc lv (.long x :: st) := by
  obtain ⟨p, l, e, R, s, m, args, below, meth, c, Q, A, D, tys, ids, ad, ent⟩ := E
  obtain ⟨hx, hb, hml, hown, hts, hK, hN, hR, hA, hlk, hAX⟩ := C
  exact fun h H locs ls hP hD hS hl => lv_lstore hx hb hd hl hn hl' (fun ls' hl => k h H locs ls' hP hD hS hl)
theorem j_astore_n (C : CX E cc own nL rm) {i : Fin 4} {x : Nat} (hd : decode cc pc = .ok (.astore_n i, 1)) (hn : (i : Nat) < nL) (hl' : ((i : Nat), Value.ref x) :: lv.filter (fun q => !(q.1 == (i : Nat)) && !(q.1 + 1 == (i : Nat) && q.2.category == 2)) = lv') (k : J E nL kc ks r0 b σ (pc + 1) lv' st) : J E nL kc ks r0 b σ pc lv (.ref x :: st) := by
  obtain ⟨p, l, e, R, s, m, args, below, meth, c, Q, A, D, tys, ids, ad, ent⟩ := E
  obtain ⟨hx, hb, hml, hown, hts, hK, hN, hR, hA, hlk, hAX⟩ := C
  exact fun h H locs ls hP hD hS hl => lv_astore_n hx hb hd rfl hl hn hl' (fun ls' hl => k h H locs ls' hP hD hS hl)
theorem j_astore (C : CX E cc own nL rm) {i : Nat} {x : Nat} (hd : decode cc pc = .ok (.astore i, 2)) (hn : i < nL) (hl' : (i, Value.ref x) :: lv.filter (fun q => !(q.1 == i) && !(q.1 + 1 == i && q.2.category == 2)) = lv') (k : J E nL kc ks r0 b σ (pc + 2) lv' st) : J E nL kc ks r0 b σ pc lv (.ref x :: st) := by
  obtain ⟨p, l, e, R, s, m, args, below, meth, c, Q, A, D, tys, ids, ad, ent⟩ := E
  obtain ⟨hx, hb, hml, hown, hts, hK, hN, hR, hA, hlk, hAX⟩ := C
  exact fun h H locs ls hP hD hS hl => lv_astore hx hb hd hl hn hl' (fun ls' hl => k h H locs ls' hP hD hS hl)
theorem j_astoreq_n (C : CX E cc own nL rm) {i : Fin 4} {o : Option Nat} (hd : decode cc pc = .ok (.astore_n i, 1)) (hn : (i : Nat) < nL) (hl' : ((i : Nat), va_rf o) :: lv.filter (fun q => !(q.1 == (i : Nat)) && !(q.1 + 1 == (i : Nat) && q.2.category == 2)) = lv') (k : J E nL kc ks r0 b σ (pc + 1) lv' st) : J E nL kc ks r0 b σ pc lv (va_rf o :: st) := by
  obtain ⟨p, l, e, R, s, m, args, below, meth, c, Q, A, D, tys, ids, ad, ent⟩ := E
  obtain ⟨hx, hb, hml, hown, hts, hK, hN, hR, hA, hlk, hAX⟩ := C
  cases o with
  | none => exact fun h H locs ls hP hD hS hl => lv_astore_nN hx hb hd rfl hl hn hl' (fun ls' hl => k h H locs ls' hP hD hS hl)
  | some a => exact fun h H locs ls hP hD hS hl => lv_astore_n hx hb hd rfl hl hn hl' (fun ls' hl => k h H locs ls' hP hD hS hl)
theorem j_astoreq (C : CX E cc own nL rm) {i : Nat} {o : Option Nat} (hd : decode cc pc = .ok (.astore i, 2)) (hn : i < nL) (hl' : (i, va_rf o) :: lv.filter (fun q => !(q.1 == i) && !(q.1 + 1 == i && q.2.category == 2)) = lv') (k : J E nL kc ks r0 b σ (pc + 2) lv' st) : J E nL kc ks r0 b σ pc lv (va_rf o :: st) := by
  obtain ⟨p, l, e, R, s, m, args, below, meth, c, Q, A, D, tys, ids, ad, ent⟩ := E
  obtain ⟨hx, hb, hml, hown, hts, hK, hN, hR, hA, hlk, hAX⟩ := C
  cases o with
  | none => exact fun h H locs ls hP hD hS hl => lv_astoreN hx hb hd hl hn hl' (fun ls' hl => k h H locs ls' hP hD hS hl)
  | some a => exact fun h H locs ls hP hD hS hl => lv_astore hx hb hd hl hn hl' (fun ls' hl => k h H locs ls' hP hD hS hl)
theorem j_iinc (C : CX E cc own nL rm) {i : Nat} {n : Int} {x v : Int32} (hd : decode cc pc = .ok (.iinc i n, 3)) (q : Nat) (hq : lv[q]? = some (i, .int x)) (hv : x + Int32.ofInt n = v) (hn : i < nL) (hl' : (i, Value.int v) :: lv.filter (fun q => !(q.1 == i) && !(q.1 + 1 == i && q.2.category == 2)) = lv') (k : J E nL kc ks r0 b σ (pc + 3) lv' st) : J E nL kc ks r0 b σ pc lv st := by
  obtain ⟨p, l, e, R, s, m, args, below, meth, c, Q, A, D, tys, ids, ad, ent⟩ := E
  obtain ⟨hx, hb, hml, hown, hts, hK, hN, hR, hA, hlk, hAX⟩ := C
  exact fun h H locs ls hP hD hS hl => lv_iinc hx hb hd hl hq hv hn hl' (fun ls' hl => k h H locs ls' hP hD hS hl)
theorem j_dup (C : CX E cc own nL rm) {v : Value} (hd : decode cc pc = .ok (.dup, 1)) (hv : v.category = 1) (k : J E nL kc ks r0 b σ (pc + 1) lv (v :: v :: st)) : J E nL kc ks r0 b σ pc lv (v :: st) := by
  obtain ⟨p, l, e, R, s, m, args, below, meth, c, Q, A, D, tys, ids, ad, ent⟩ := E
  obtain ⟨hx, hb, hml, hown, hts, hK, hN, hR, hA, hlk, hAX⟩ := C
  exact fun h H locs ls hP hD hS hl => lv_dup hx hb hd hv (k h H locs ls hP hD hS hl)
theorem j_goto (C : CX E cc own nL rm) {off : Int} (tgt : Nat) (hd : decode cc pc = .ok (.goto off, 3)) (ht : (pc : Int) + off = (tgt : Int)) (k : J E nL kc ks r0 b σ tgt lv st) : J E nL kc ks r0 b σ pc lv st := by
  obtain ⟨p, l, e, R, s, m, args, below, meth, c, Q, A, D, tys, ids, ad, ent⟩ := E
  obtain ⟨hx, hb, hml, hown, hts, hK, hN, hR, hA, hlk, hAX⟩ := C
  exact fun h H locs ls hP hD hS hl => lv_goto hx hb hd ht (k h H locs ls hP hD hS hl)
theorem j_null (C : CX E cc own nL rm) (hd : decode cc pc = .ok (.aconst_null, 1)) (k : J E nL kc ks r0 b σ (pc + 1) lv (.null :: st)) : J E nL kc ks r0 b σ pc lv st := by
  obtain ⟨p, l, e, R, s, m, args, below, meth, c, Q, A, D, tys, ids, ad, ent⟩ := E
  obtain ⟨hx, hb, hml, hown, hts, hK, hN, hR, hA, hlk, hAX⟩ := C
  exact fun h H locs ls hP hD hS hl => lv_null hx hb hd (k h H locs ls hP hD hS hl)
theorem j_if_eq (C : CX E cc own nL rm) {x : Int32} {off : Int} (tgt : Nat) (hd : decode cc pc = .ok (.ifCond .eq off, 3)) (ht : (pc : Int) + off = (tgt : Int)) (kt : J E nL kc ks r0 b1 σ tgt lv st) (kf : J E nL kc ks r0 b2 σ (pc + 3) lv st) : J E nL kc ks r0 (if x = 0 then b1 else b2) σ pc lv (.int x :: st) := by
  obtain ⟨p, l, e, R, s, m, args, below, meth, c, Q, A, D, tys, ids, ad, ent⟩ := E
  obtain ⟨hx, hb, hml, hown, hts, hK, hN, hR, hA, hlk, hAX⟩ := C
  exact fun h H locs ls hP hD hS hl => lv_if_eq hx hb hd ht (fun q => kt (by first | (rw [if_pos q] at h; exact h) | (rw [if_neg (fun z => z q)] at h; exact h)) H locs ls hP hD hS hl) (fun q => kf (by first | (rw [if_neg q] at h; exact h) | (rw [if_neg (fun z => z q)] at h; exact h)) H locs ls hP hD hS hl)
theorem j_icmp_eq (C : CX E cc own nL rm) {x y : Int32} {off : Int} (tgt : Nat) (hd : decode cc pc = .ok (.if_icmp .eq off, 3)) (ht : (pc : Int) + off = (tgt : Int)) (kt : J E nL kc ks r0 b1 σ tgt lv st) (kf : J E nL kc ks r0 b2 σ (pc + 3) lv st) : J E nL kc ks r0 (if x = y then b1 else b2) σ pc lv (.int y :: .int x :: st) := by
  obtain ⟨p, l, e, R, s, m, args, below, meth, c, Q, A, D, tys, ids, ad, ent⟩ := E
  obtain ⟨hx, hb, hml, hown, hts, hK, hN, hR, hA, hlk, hAX⟩ := C
  exact fun h H locs ls hP hD hS hl => lv_icmp_eq hx hb hd ht (fun q => kt (by first | (rw [if_pos q] at h; exact h) | (rw [if_neg (fun z => z q)] at h; exact h)) H locs ls hP hD hS hl) (fun q => kf (by first | (rw [if_neg q] at h; exact h) | (rw [if_neg (fun z => z q)] at h; exact h)) H locs ls hP hD hS hl)
theorem j_if_ne (C : CX E cc own nL rm) {x : Int32} {off : Int} (tgt : Nat) (hd : decode cc pc = .ok (.ifCond .ne off, 3)) (ht : (pc : Int) + off = (tgt : Int)) (kt : J E nL kc ks r0 b1 σ tgt lv st) (kf : J E nL kc ks r0 b2 σ (pc + 3) lv st) : J E nL kc ks r0 (if ¬ x = 0 then b1 else b2) σ pc lv (.int x :: st) := by
  obtain ⟨p, l, e, R, s, m, args, below, meth, c, Q, A, D, tys, ids, ad, ent⟩ := E
  obtain ⟨hx, hb, hml, hown, hts, hK, hN, hR, hA, hlk, hAX⟩ := C
  exact fun h H locs ls hP hD hS hl => lv_if_ne hx hb hd ht (fun q => kt (by first | (rw [if_pos q] at h; exact h) | (rw [if_neg (fun z => z q)] at h; exact h)) H locs ls hP hD hS hl) (fun q => kf (by first | (rw [if_neg q] at h; exact h) | (rw [if_neg (fun z => z q)] at h; exact h)) H locs ls hP hD hS hl)
theorem j_icmp_ne (C : CX E cc own nL rm) {x y : Int32} {off : Int} (tgt : Nat) (hd : decode cc pc = .ok (.if_icmp .ne off, 3)) (ht : (pc : Int) + off = (tgt : Int)) (kt : J E nL kc ks r0 b1 σ tgt lv st) (kf : J E nL kc ks r0 b2 σ (pc + 3) lv st) : J E nL kc ks r0 (if ¬ x = y then b1 else b2) σ pc lv (.int y :: .int x :: st) := by
  obtain ⟨p, l, e, R, s, m, args, below, meth, c, Q, A, D, tys, ids, ad, ent⟩ := E
  obtain ⟨hx, hb, hml, hown, hts, hK, hN, hR, hA, hlk, hAX⟩ := C
  exact fun h H locs ls hP hD hS hl => lv_icmp_ne hx hb hd ht (fun q => kt (by first | (rw [if_pos q] at h; exact h) | (rw [if_neg (fun z => z q)] at h; exact h)) H locs ls hP hD hS hl) (fun q => kf (by first | (rw [if_neg q] at h; exact h) | (rw [if_neg (fun z => z q)] at h; exact h)) H locs ls hP hD hS hl)
theorem j_if_lt (C : CX E cc own nL rm) {x : Int32} {off : Int} (tgt : Nat) (hd : decode cc pc = .ok (.ifCond .lt off, 3)) (ht : (pc : Int) + off = (tgt : Int)) (kt : J E nL kc ks r0 b1 σ tgt lv st) (kf : J E nL kc ks r0 b2 σ (pc + 3) lv st) : J E nL kc ks r0 (if x < 0 then b1 else b2) σ pc lv (.int x :: st) := by
  obtain ⟨p, l, e, R, s, m, args, below, meth, c, Q, A, D, tys, ids, ad, ent⟩ := E
  obtain ⟨hx, hb, hml, hown, hts, hK, hN, hR, hA, hlk, hAX⟩ := C
  exact fun h H locs ls hP hD hS hl => lv_if_lt hx hb hd ht (fun q => kt (by first | (rw [if_pos q] at h; exact h) | (rw [if_neg (fun z => z q)] at h; exact h)) H locs ls hP hD hS hl) (fun q => kf (by first | (rw [if_neg q] at h; exact h) | (rw [if_neg (fun z => z q)] at h; exact h)) H locs ls hP hD hS hl)
theorem j_icmp_lt (C : CX E cc own nL rm) {x y : Int32} {off : Int} (tgt : Nat) (hd : decode cc pc = .ok (.if_icmp .lt off, 3)) (ht : (pc : Int) + off = (tgt : Int)) (kt : J E nL kc ks r0 b1 σ tgt lv st) (kf : J E nL kc ks r0 b2 σ (pc + 3) lv st) : J E nL kc ks r0 (if x < y then b1 else b2) σ pc lv (.int y :: .int x :: st) := by
  obtain ⟨p, l, e, R, s, m, args, below, meth, c, Q, A, D, tys, ids, ad, ent⟩ := E
  obtain ⟨hx, hb, hml, hown, hts, hK, hN, hR, hA, hlk, hAX⟩ := C
  exact fun h H locs ls hP hD hS hl => lv_icmp_lt hx hb hd ht (fun q => kt (by first | (rw [if_pos q] at h; exact h) | (rw [if_neg (fun z => z q)] at h; exact h)) H locs ls hP hD hS hl) (fun q => kf (by first | (rw [if_neg q] at h; exact h) | (rw [if_neg (fun z => z q)] at h; exact h)) H locs ls hP hD hS hl)
theorem j_if_le (C : CX E cc own nL rm) {x : Int32} {off : Int} (tgt : Nat) (hd : decode cc pc = .ok (.ifCond .le off, 3)) (ht : (pc : Int) + off = (tgt : Int)) (kt : J E nL kc ks r0 b1 σ tgt lv st) (kf : J E nL kc ks r0 b2 σ (pc + 3) lv st) : J E nL kc ks r0 (if x ≤ 0 then b1 else b2) σ pc lv (.int x :: st) := by
  obtain ⟨p, l, e, R, s, m, args, below, meth, c, Q, A, D, tys, ids, ad, ent⟩ := E
  obtain ⟨hx, hb, hml, hown, hts, hK, hN, hR, hA, hlk, hAX⟩ := C
  exact fun h H locs ls hP hD hS hl => lv_if_le hx hb hd ht (fun q => kt (by first | (rw [if_pos q] at h; exact h) | (rw [if_neg (fun z => z q)] at h; exact h)) H locs ls hP hD hS hl) (fun q => kf (by first | (rw [if_neg q] at h; exact h) | (rw [if_neg (fun z => z q)] at h; exact h)) H locs ls hP hD hS hl)
theorem j_icmp_le (C : CX E cc own nL rm) {x y : Int32} {off : Int} (tgt : Nat) (hd : decode cc pc = .ok (.if_icmp .le off, 3)) (ht : (pc : Int) + off = (tgt : Int)) (kt : J E nL kc ks r0 b1 σ tgt lv st) (kf : J E nL kc ks r0 b2 σ (pc + 3) lv st) : J E nL kc ks r0 (if x ≤ y then b1 else b2) σ pc lv (.int y :: .int x :: st) := by
  obtain ⟨p, l, e, R, s, m, args, below, meth, c, Q, A, D, tys, ids, ad, ent⟩ := E
  obtain ⟨hx, hb, hml, hown, hts, hK, hN, hR, hA, hlk, hAX⟩ := C
  exact fun h H locs ls hP hD hS hl => lv_icmp_le hx hb hd ht (fun q => kt (by first | (rw [if_pos q] at h; exact h) | (rw [if_neg (fun z => z q)] at h; exact h)) H locs ls hP hD hS hl) (fun q => kf (by first | (rw [if_neg q] at h; exact h) | (rw [if_neg (fun z => z q)] at h; exact h)) H locs ls hP hD hS hl)
theorem j_if_ge (C : CX E cc own nL rm) {x : Int32} {off : Int} (tgt : Nat) (hd : decode cc pc = .ok (.ifCond .ge off, 3)) (ht : (pc : Int) + off = (tgt : Int)) (kt : J E nL kc ks r0 b1 σ tgt lv st) (kf : J E nL kc ks r0 b2 σ (pc + 3) lv st) : J E nL kc ks r0 (if 0 ≤ x then b1 else b2) σ pc lv (.int x :: st) := by
  obtain ⟨p, l, e, R, s, m, args, below, meth, c, Q, A, D, tys, ids, ad, ent⟩ := E
  obtain ⟨hx, hb, hml, hown, hts, hK, hN, hR, hA, hlk, hAX⟩ := C
  exact fun h H locs ls hP hD hS hl => lv_if_ge hx hb hd ht (fun q => kt (by first | (rw [if_pos q] at h; exact h) | (rw [if_neg (fun z => z q)] at h; exact h)) H locs ls hP hD hS hl) (fun q => kf (by first | (rw [if_neg q] at h; exact h) | (rw [if_neg (fun z => z q)] at h; exact h)) H locs ls hP hD hS hl)
theorem j_icmp_ge (C : CX E cc own nL rm) {x y : Int32} {off : Int} (tgt : Nat) (hd : decode cc pc = .ok (.if_icmp .ge off, 3)) (ht : (pc : Int) + off = (tgt : Int)) (kt : J E nL kc ks r0 b1 σ tgt lv st) (kf : J E nL kc ks r0 b2 σ (pc + 3) lv st) : J E nL kc ks r0 (if y ≤ x then b1 else b2) σ pc lv (.int y :: .int x :: st) := by
  obtain ⟨p, l, e, R, s, m, args, below, meth, c, Q, A, D, tys, ids, ad, ent⟩ := E
  obtain ⟨hx, hb, hml, hown, hts, hK, hN, hR, hA, hlk, hAX⟩ := C
  exact fun h H locs ls hP hD hS hl => lv_icmp_ge hx hb hd ht (fun q => kt (by first | (rw [if_pos q] at h; exact h) | (rw [if_neg (fun z => z q)] at h; exact h)) H locs ls hP hD hS hl) (fun q => kf (by first | (rw [if_neg q] at h; exact h) | (rw [if_neg (fun z => z q)] at h; exact h)) H locs ls hP hD hS hl)
theorem j_if_gt (C : CX E cc own nL rm) {x : Int32} {off : Int} (tgt : Nat) (hd : decode cc pc = .ok (.ifCond .gt off, 3)) (ht : (pc : Int) + off = (tgt : Int)) (kt : J E nL kc ks r0 b1 σ tgt lv st) (kf : J E nL kc ks r0 b2 σ (pc + 3) lv st) : J E nL kc ks r0 (if 0 < x then b1 else b2) σ pc lv (.int x :: st) := by
  obtain ⟨p, l, e, R, s, m, args, below, meth, c, Q, A, D, tys, ids, ad, ent⟩ := E
  obtain ⟨hx, hb, hml, hown, hts, hK, hN, hR, hA, hlk, hAX⟩ := C
  exact fun h H locs ls hP hD hS hl => lv_if_gt hx hb hd ht (fun q => kt (by first | (rw [if_pos q] at h; exact h) | (rw [if_neg (fun z => z q)] at h; exact h)) H locs ls hP hD hS hl) (fun q => kf (by first | (rw [if_neg q] at h; exact h) | (rw [if_neg (fun z => z q)] at h; exact h)) H locs ls hP hD hS hl)
theorem j_icmp_gt (C : CX E cc own nL rm) {x y : Int32} {off : Int} (tgt : Nat) (hd : decode cc pc = .ok (.if_icmp .gt off, 3)) (ht : (pc : Int) + off = (tgt : Int)) (kt : J E nL kc ks r0 b1 σ tgt lv st) (kf : J E nL kc ks r0 b2 σ (pc + 3) lv st) : J E nL kc ks r0 (if y < x then b1 else b2) σ pc lv (.int y :: .int x :: st) := by
  obtain ⟨p, l, e, R, s, m, args, below, meth, c, Q, A, D, tys, ids, ad, ent⟩ := E
  obtain ⟨hx, hb, hml, hown, hts, hK, hN, hR, hA, hlk, hAX⟩ := C
  exact fun h H locs ls hP hD hS hl => lv_icmp_gt hx hb hd ht (fun q => kt (by first | (rw [if_pos q] at h; exact h) | (rw [if_neg (fun z => z q)] at h; exact h)) H locs ls hP hD hS hl) (fun q => kf (by first | (rw [if_neg q] at h; exact h) | (rw [if_neg (fun z => z q)] at h; exact h)) H locs ls hP hD hS hl)
/-- a reference that may be null -/
theorem j_ifnull (C : CX E cc own nL rm) {o : Option Nat} {k : Nat → Option ρ} {off : Int} (tgt : Nat) (hd : decode cc pc = .ok (.ifnull off, 3)) (ht : (pc : Int) + off = (tgt : Int)) (kn : o = none → J E nL kc ks r0 b σ tgt lv st) (kf : ∀ a, o = some a → J E nL kc ks r0 (k a) σ (pc + 3) lv st) : J E nL kc ks r0 (caseo o b k) σ pc lv (va_rf (o.map (eAd E)) :: st) := by
  obtain ⟨p, l, e, R, s, m, args, below, meth, c, Q, A, D, tys, ids, ad, ent⟩ := E
  obtain ⟨hx, hb, hml, hown, hts, hK, hN, hR, hA, hlk, hAX⟩ := C
  cases o with
  | none => exact fun h H locs ls hP hD hS hl => lv_ifnullN hx hb hd ht (kn rfl h H locs ls hP hD hS hl)
  | some a => exact fun h H locs ls hP hD hS hl => lv_ifnull hx hb hd (kf a rfl h H locs ls hP hD hS hl)
theorem j_ifnonnull (C : CX E cc own nL rm) {o : Option Nat} {k : Nat → Option ρ} {off : Int} (tgt : Nat) (hd : decode cc pc = .ok (.ifnonnull off, 3)) (ht : (pc : Int) + off = (tgt : Int)) (kn : o = none → J E nL kc ks r0 b σ (pc + 3) lv st) (kf : ∀ a, o = some a → J E nL kc ks r0 (k a) σ tgt lv st) : J E nL kc ks r0 (caseo o b k) σ pc lv (va_rf (o.map (eAd E)) :: st) := by
  obtain ⟨p, l, e, R, s, m, args, below, meth, c, Q, A, D, tys, ids, ad, ent⟩ := E
  obtain ⟨hx, hb, hml, hown, hts, hK, hN, hR, hA, hlk, hAX⟩ := C
  cases o with
  | none => exact fun h H locs ls hP hD hS hl => lv_ifnonnullN hx hb hd (kn rfl h H locs ls hP hD hS hl)
  | some a => exact fun h H locs ls hP hD hS hl => lv_ifnonnull hx hb hd ht (kf a rfl h H locs ls hP hD hS hl)
/-- the words of a program -/
theorem j_lete {α : Type} {x : α} {k : α → Option ρ} {stf : α → List Value} (h : ∀ y, J E nL kc ks r0 (k y) σ pc lv (stf y)) : J E nL kc ks r0 (lete x k) σ pc lv (stf x) := h x
theorem j_nmi {x : Int32} {k : Int32 → Option ρ} (h : ∀ y, J E nL kc ks r0 (k y) σ pc lv (.int y :: st)) : J E nL kc ks r0 (lete x k) σ pc lv (.int x :: st) := h x
theorem j_nml {x : Int64} {k : Int64 → Option ρ} (h : ∀ y, J E nL kc ks r0 (k y) σ pc lv (.long y :: st)) : J E nL kc ks r0 (lete x k) σ pc lv (.long x :: st) := h x
theorem j_bind {α : Type} {x : Option α} {k : α → Option ρ} (h : ∀ a, x = some a → J E nL kc ks r0 (k a) σ pc lv st) : J E nL kc ks r0 (bindo x k) σ pc lv st := by
  intro hb
  cases x with
  | none => cases hb
  | some a => exact h a rfl hb
theorem j_chk {q : Bool} (h : q = true → J E nL kc ks r0 b σ pc lv st) : J E nL kc ks r0 (chk q b) σ pc lv st := by
  intro hb
  unfold chk at hb
  split at hb
  · exact h (by assumption) hb
  · cases hb
theorem j_ite {q : Prop} {hq : Decidable q} (h1 : q → J E nL kc ks r0 b1 σ pc lv st) (h2 : ¬ q → J E nL kc ks r0 b2 σ pc lv st) : J E nL kc ks r0 (if q then b1 else b2) σ pc lv st := by
  intro hb
  split at hb
  · exact h1 (by assumption) hb
  · exact h2 (by assumption) hb
theorem j_none : J E nL kc ks r0 none σ pc lv st := fun h => by cases h
theorem j_lv (lv' : List (Nat × Value)) (is : List Nat) (h : lv_pick lv is = lv') (k : J E nL kc ks r0 b σ pc lv' st) : J E nL kc ks r0 b σ pc lv st := by
  obtain ⟨p, l, e, R, s, m, args, below, meth, c, Q, A, D, tys, ids, ad, ent⟩ := E
  exact fun hb H locs ls hP hD hS hl => k hb H locs ls hP hD hS (lv_sub hl is h)
theorem j_loop {α : Type} {body : (α → Option ρ) → α → Option ρ} {M : α → Mem} {L : α → List (Nat × Value)} {S : α → List Value} (h : ∀ rec : α → Option ρ, (∀ a, J E nL kc ks r0 (rec a) (M a) pc (L a) (S a)) → ∀ a, J E nL kc ks r0 (body rec a) (M a) pc (L a) (S a)) : ∀ (f : Nat) (a : α), J E nL kc ks r0 (loopF body f a) (M a) pc (L a) (S a) := by
  intro f
  induction f with
  | zero => exact fun a => j_none
  | succ f ih => exact h _ ih
/-- switches: the case is known -/
theorem j_tsIn (C : CX E cc own nL rm) {x : Int32} {dflt lo hi : Int} {offs : Array Int} {len : Nat} {off : Int} (v : Int32) (tgt : Nat) (hd : decode cc pc = .ok (.tableswitch dflt lo hi offs, len)) (hv : x = v) (h1 : ¬ v.toInt < lo) (h2 : ¬ hi < v.toInt) (ho : offs[(v.toInt - lo).toNat]? = some off) (ht : (pc : Int) + off = (tgt : Int)) (k : J E nL kc ks r0 b σ tgt lv st) : J E nL kc ks r0 b σ pc lv (.int x :: st) := by
  obtain ⟨p, l, e, R, s, m, args, below, meth, c, Q, A, D, tys, ids, ad, ent⟩ := E
  obtain ⟨hx, hb, hml, hown, hts, hK, hN, hR, hA, hlk, hAX⟩ := C
  subst hv
  exact fun h H locs ls hP hD hS hl => lv_tableIn hx hb hd h1 h2 ho ht (k h H locs ls hP hD hS hl)
theorem j_tsOut (C : CX E cc own nL rm) {x : Int32} {dflt lo hi : Int} {offs : Array Int} {len : Nat} (tgt : Nat) (hd : decode cc pc = .ok (.tableswitch dflt lo hi offs, len)) (h1 : x.toInt < lo ∨ hi < x.toInt) (ht : (pc : Int) + dflt = (tgt : Int)) (k : J E nL kc ks r0 b σ tgt lv st) : J E nL kc ks r0 b σ pc lv (.int x :: st) := by
  obtain ⟨p, l, e, R, s, m, args, below, meth, c, Q, A, D, tys, ids, ad, ent⟩ := E
  obtain ⟨hx, hb, hml, hown, hts, hK, hN, hR, hA, hlk, hAX⟩ := C
  exact fun h H locs ls hP hD hS hl => lv_tableOut hx hb hd h1 ht (k h H locs ls hP hD hS hl)
/-- a field is read -/
theorem j_get (C : CX E cc own nL rm) {RC : String} {T : u_T} {N ci idx o : Nat} {fs : List Value} {v : Value} (hU : ∀ w ∈ u_ws RC T N, w ∈ lw_g) (hc : vwCl[ci]? = some (RC, T, N)) (ho : o ∈ eIds E) (he : eEnt E o (σ.1 o) (σ.2 o) = .inr (ci, fs)) (j : Nat) (hj : j < N) (hv : fs[j]? = some v) (hlink : Cond.fieldLink own idx (T j).1 (T j).2.1 (T j).2.2.1 ∈ lw_g) (hd : decode cc pc = .ok (.getfield idx, 3)) (k : J E nL kc ks r0 b σ (pc + 3) lv (v :: st)) : J E nL kc ks r0 b σ pc lv (.ref (eAd E o) :: st) := by
  obtain ⟨p, l, e, R, s, m, args, below, meth, c, Q, A, D, tys, ids, ad, ent⟩ := E
  obtain ⟨hx, hb, hml, hown, hts, hK, hN, hR, hA, hlk, hAX⟩ := C
  intro h H locs ls hP hD hS hl
  obtain ⟨q0, hq⟩ := wl_at (ad := ad) (ent := ent) σ ho
  rw [show ent o (σ.1 o) (σ.2 o) = .inr (ci, fs) from he] at hq
  exact va_get (D := D) hx hb hts hU hown hK hP q0 hq hc j hj (hts _ hlink) (fun _ h9 => h9) hv hd (k h H locs ls hP hD hS hl)
/-- a field is written: the memory has a new name -/
theorem j_put (C : CX E cc own nL rm) {RC : String} {T : u_T} {N ci idx o : Nat} {fs : List Value} {v : Value} {σ' : Mem} {ty0 : Nat → FieldType} {kb : Mem → Option ρ} (hU : ∀ w ∈ u_ws RC T N, w ∈ lw_g) (hty : ∀ k, k < N → parseFieldDescriptor (T k).2.2.1 = some (ty0 k)) (hnm : ∀ a, a < N → ∀ b, b < N → a ≠ b → (T a).2.1 ≠ (T b).2.1) (hc : vwCl[ci]? = some (RC, T, N)) (ho : o ∈ eIds E) (he : eEnt E o (σ.1 o) (σ.2 o) = .inr (ci, fs)) (j : Nat) (hj : j < N) (hjl : j < fs.length) (he' : eEnt E o (σ'.1 o) (σ'.2 o) = .inr (ci, fs.set j v)) (hne : ∀ o', o' ≠ o → σ'.1 o' = σ.1 o' ∧ σ'.2 o' = σ.2 o') (hfin : (T j).2.2.2 = false) (hn : narrow (ty0 j) v = v) (hfit : fits (ty0 j) v = true) (hlink : Cond.fieldLink own idx (T j).1 (T j).2.1 (T j).2.2.1 ∈ lw_g) (hd : decode cc pc = .ok (.putfield idx, 3)) (k : ∀ τ, J E nL kc ks r0 (kb τ) τ (pc + 3) lv st) : J E nL kc ks r0 (lete σ' kb) σ pc lv (v :: .ref (eAd E o) :: st) := by
  obtain ⟨p, l, e, R, s, m, args, below, meth, c, Q, A, D, tys, ids, ad, ent⟩ := E
  obtain ⟨hx, hb, hml, hown, hts, hK, hN, hR, hA, hlk, hAX⟩ := C
  intro h H locs ls hP hD hS hl
  obtain ⟨q0, hq⟩ := wl_at (ad := ad) (ent := ent) σ ho
  have hset := wl_set (σ' := σ') hD ho hq he' hne
  rw [show ent o (σ.1 o) (σ.2 o) = .inr (ci, fs) from he] at hq
  refine va_put (D := D) hx hb hts hU ty0 hty hnm hown hK hP hD hS q0 hq hc j hj (hts _ hlink) (fun _ h9 => h9) hfin (hty j hj) hn hfit hjl hd (fun H1 locs1 hP1 hD1 hS1 => ?_)
  have hP1 : va_P D vwCl ((wl ids ad ent σ).set q0 (ad o, .inr (ci, fs.set j v))) H1 := hP1
  have hD1 : va_D A ((wl ids ad ent σ).set q0 (ad o, .inr (ci, fs.set j v))) := hD1
  rw [hset] at hP1 hD1
  exact k σ' h H1 locs1 ls hP1 hD1 hS1 hl
theorem j_iald (C : CX E cc own nL rm) {o n t0 : Nat} {cA : ClassId} {f : Nat → Int32} {i : Int32} (ho : o ∈ eIds E) (he : eEnt E o (σ.1 o) (σ.2 o) = .inl (cA, n, .inl f)) (ht : (eTys E)[t0]? = some (cA, .int)) (hin : vp_in i n) (hd : decode cc pc = .ok (.iaload, 1)) (k : J E nL kc ks r0 b σ (pc + 1) lv (.int (f (ix i)) :: st)) : J E nL kc ks r0 b σ pc lv (.int i :: .ref (eAd E o) :: st) := by
  obtain ⟨p, l, e, R, s, m, args, below, meth, c, Q, A, D, tys, ids, ad, ent⟩ := E
  obtain ⟨hx, hb, hml, hown, hts, hK, hN, hR, hA, hlk, hAX⟩ := C
  intro h H locs ls hP hD hS hl
  obtain ⟨q0, hq⟩ := wl_at (ad := ad) (ent := ent) σ ho
  rw [show ent o (σ.1 o) (σ.2 o) = .inl (cA, n, .inl f) from he] at hq
  exact va_iald (D := D) hx hb hK hP q0 t0 hq ht hin hd (k h H locs ls hP hD hS hl)
theorem j_zald (C : CX E cc own nL rm) {o n t0 : Nat} {cA : ClassId} {f : Nat → Int32} {i : Int32} (ho : o ∈ eIds E) (he : eEnt E o (σ.1 o) (σ.2 o) = .inl (cA, n, .inl f)) (ht : (eTys E)[t0]? = some (cA, .boolean)) (hin : vp_in i n) (hd : decode cc pc = .ok (.baload, 1)) (k : J E nL kc ks r0 b σ (pc + 1) lv (.int (f (ix i)) :: st)) : J E nL kc ks r0 b σ pc lv (.int i :: .ref (eAd E o) :: st) := by
  obtain ⟨p, l, e, R, s, m, args, below, meth, c, Q, A, D, tys, ids, ad, ent⟩ := E
  obtain ⟨hx, hb, hml, hown, hts, hK, hN, hR, hA, hlk, hAX⟩ := C
  intro h H locs ls hP hD hS hl
  obtain ⟨q0, hq⟩ := wl_at (ad := ad) (ent := ent) σ ho
  rw [show ent o (σ.1 o) (σ.2 o) = .inl (cA, n, .inl f) from he] at hq
  exact va_zald (D := D) hx hb hK hP q0 t0 hq ht hin hd (k h H locs ls hP hD hS hl)
theorem j_lald (C : CX E cc own nL rm) {o n t0 : Nat} {cA : ClassId} {f : Nat → Int64} {i : Int32} (ho : o ∈ eIds E) (he : eEnt E o (σ.1 o) (σ.2 o) = .inl (cA, n, .inr (.inl f))) (ht : (eTys E)[t0]? = some (cA, .long)) (hin : vp_in i n) (hd : decode cc pc = .ok (.laload, 1)) (k : J E nL kc ks r0 b σ (pc + 1) lv (.long (f (ix i)) :: st)) : J E nL kc ks r0 b σ pc lv (.int i :: .ref (eAd E o) :: st) := by
  obtain ⟨p, l, e, R, s, m, args, below, meth, c, Q, A, D, tys, ids, ad, ent⟩ := E
  obtain ⟨hx, hb, hml, hown, hts, hK, hN, hR, hA, hlk, hAX⟩ := C
  intro h H locs ls hP hD hS hl
  obtain ⟨q0, hq⟩ := wl_at (ad := ad) (ent := ent) σ ho
  rw [show ent o (σ.1 o) (σ.2 o) = .inl (cA, n, .inr (.inl f)) from he] at hq
  exact va_lald (D := D) hx hb hK hP q0 t0 hq ht hin hd (k h H locs ls hP hD hS hl)
theorem j_aald (C : CX E cc own nL rm) {o n t0 : Nat} {cA : ClassId} {ty : String} {f : Nat → Option Nat} {i : Int32} (ho : o ∈ eIds E) (he : eEnt E o (σ.1 o) (σ.2 o) = .inl (cA, n, .inr (.inr (.inr (.inr fun j => (f j).map (eAd E)))))) (ht : (eTys E)[t0]? = some (cA, .object ty)) (hin : vp_in i n) (hd : decode cc pc = .ok (.aaload, 1)) (k : J E nL kc ks r0 b σ (pc + 1) lv (va_rf ((f (ix i)).map (eAd E)) :: st)) : J E nL kc ks r0 b σ pc lv (.int i :: .ref (eAd E o) :: st) := by
  obtain ⟨p, l, e, R, s, m, args, below, meth, c, Q, A, D, tys, ids, ad, ent⟩ := E
  obtain ⟨hx, hb, hml, hown, hts, hK, hN, hR, hA, hlk, hAX⟩ := C
  intro h H locs ls hP hD hS hl
  obtain ⟨q0, hq⟩ := wl_at (ad := ad) (ent := ent) σ ho
  rw [show ent o (σ.1 o) (σ.2 o) = _ from he] at hq
  exact va_aldq (D := D) hx hb hK hP q0 t0 hq ht hin hd (k h H locs ls hP hD hS hl)
theorem j_alen (C : CX E cc own nL rm) {o n t0 : Nat} {cA : ClassId} {ty : FieldType} {f : Nat → Int32} {v : Int32} (ho : o ∈ eIds E) (he : eEnt E o (σ.1 o) (σ.2 o) = .inl (cA, n, .inl f)) (ht : (eTys E)[t0]? = some (cA, ty)) (hv : Int32.ofNat n = v) (hd : decode cc pc = .ok (.arraylength, 1)) (k : J E nL kc ks r0 b σ (pc + 1) lv (.int v :: st)) : J E nL kc ks r0 b σ pc lv (.ref (eAd E o) :: st) := by
  obtain ⟨p, l, e, R, s, m, args, below, meth, c, Q, A, D, tys, ids, ad, ent⟩ := E
  obtain ⟨hx, hb, hml, hown, hts, hK, hN, hR, hA, hlk, hAX⟩ := C
  intro h H locs ls hP hD hS hl
  obtain ⟨q0, hq⟩ := wl_at (ad := ad) (ent := ent) σ ho
  rw [show ent o (σ.1 o) (σ.2 o) = _ from he] at hq
  exact va_alen (D := D) hx hb hK hP q0 t0 hq ht hv hd (k h H locs ls hP hD hS hl)
theorem j_iast (C : CX E cc own nL rm) {o n t0 : Nat} {cA : ClassId} {i : Int32} {x : Int32} {kb : Mem → Option ρ} (ho : o ∈ eIds E) (he : eEnt E o (σ.1 o) (σ.2 o) = .inl (cA, n, .inl (σ.1 o))) (he' : eEnt E o ((wI σ o (ix i) x).1 o) ((wI σ o (ix i) x).2 o) = .inl (cA, n, .inl (upd (σ.1 o) (ix i) x))) (ht : (eTys E)[t0]? = some (cA, .int)) (hin : vp_in i n) (hd : decode cc pc = .ok (.iastore, 1)) (k : ∀ τ, J E nL kc ks r0 (kb τ) τ (pc + 1) lv st) : J E nL kc ks r0 (lete (wI σ o (ix i) x) kb) σ pc lv (.int x :: .int i :: .ref (eAd E o) :: st) := by
  obtain ⟨p, l, e, R, s, m, args, below, meth, c, Q, A, D, tys, ids, ad, ent⟩ := E
  obtain ⟨hx, hb, hml, hown, hts, hK, hN, hR, hA, hlk, hAX⟩ := C
  intro h H locs ls hP hD hS hl
  obtain ⟨q0, hq⟩ := wl_at (ad := ad) (ent := ent) σ ho
  have hset := wl_set (σ' := wI σ o (ix i) x) hD ho hq he' (fun o' h' => ⟨wI_ne σ _ _ h', rfl⟩)
  rw [show ent o (σ.1 o) (σ.2 o) = _ from he] at hq
  refine va_iast (D := D) hx hb hK hP hD hS q0 t0 hq ht hin hd (fun H1 locs1 hP1 hD1 hS1 => ?_)
  have hP1 : va_P D vwCl ((wl ids ad ent σ).set q0 (ad o, .inl (cA, n, .inl (upd (σ.1 o) (ix i) x)))) H1 := hP1
  have hD1 : va_D A ((wl ids ad ent σ).set q0 (ad o, .inl (cA, n, .inl (upd (σ.1 o) (ix i) x)))) := hD1
  rw [hset] at hP1 hD1
  exact k _ h H1 locs1 ls hP1 hD1 hS1 hl
theorem j_last (C : CX E cc own nL rm) {o n t0 : Nat} {cA : ClassId} {i : Int32} {x : Int64} {kb : Mem → Option ρ} (ho : o ∈ eIds E) (he : eEnt E o (σ.1 o) (σ.2 o) = .inl (cA, n, .inr (.inl (σ.2 o)))) (he' : eEnt E o ((wJ σ o (ix i) x).1 o) ((wJ σ o (ix i) x).2 o) = .inl (cA, n, .inr (.inl (vp_updL (σ.2 o) (ix i) x)))) (ht : (eTys E)[t0]? = some (cA, .long)) (hin : vp_in i n) (hd : decode cc pc = .ok (.lastore, 1)) (k : ∀ τ, J E nL kc ks r0 (kb τ) τ (pc + 1) lv st) : J E nL kc ks r0 (lete (wJ σ o (ix i) x) kb) σ pc lv (.long x :: .int i :: .ref (eAd E o) :: st) := by
  obtain ⟨p, l, e, R, s, m, args, below, meth, c, Q, A, D, tys, ids, ad, ent⟩ := E
  obtain ⟨hx, hb, hml, hown, hts, hK, hN, hR, hA, hlk, hAX⟩ := C
  intro h H locs ls hP hD hS hl
  obtain ⟨q0, hq⟩ := wl_at (ad := ad) (ent := ent) σ ho
  have hset := wl_set (σ' := wJ σ o (ix i) x) hD ho hq he' (fun o' h' => ⟨rfl, wJ_ne σ _ _ h'⟩)
  rw [show ent o (σ.1 o) (σ.2 o) = _ from he] at hq
  refine va_last (D := D) hx hb hK hP hD hS q0 t0 hq ht hin hd (fun H1 locs1 hP1 hD1 hS1 => ?_)
  have hP1 : va_P D vwCl ((wl ids ad ent σ).set q0 (ad o, .inl (cA, n, .inr (.inl (vp_updL (σ.2 o) (ix i) x))))) H1 := hP1
  have hD1 : va_D A ((wl ids ad ent σ).set q0 (ad o, .inl (cA, n, .inr (.inl (vp_updL (σ.2 o) (ix i) x))))) := hD1
  rw [hset] at hP1 hD1
  exact k _ h H1 locs1 ls hP1 hD1 hS1 hl
theorem j_zast (C : CX E cc own nL rm) {o n t0 : Nat} {cA : ClassId} {i : Int32} {x : Int32} {kb : Mem → Option ρ} (ho : o ∈ eIds E) (he : eEnt E o (σ.1 o) (σ.2 o) = .inl (cA, n, .inl (σ.1 o))) (he' : eEnt E o ((wI σ o (ix i) x).1 o) ((wI σ o (ix i) x).2 o) = .inl (cA, n, .inl (upd (σ.1 o) (ix i) x))) (ht : (eTys E)[t0]? = some (cA, .boolean)) (hz : vp_nar .boolean x = x) (hin : vp_in i n) (hd : decode cc pc = .ok (.bastore, 1)) (k : ∀ τ, J E nL kc ks r0 (kb τ) τ (pc + 1) lv st) : J E nL kc ks r0 (lete (wI σ o (ix i) x) kb) σ pc lv (.int x :: .int i :: .ref (eAd E o) :: st) := by
  obtain ⟨p, l, e, R, s, m, args, below, meth, c, Q, A, D, tys, ids, ad, ent⟩ := E
  obtain ⟨hx, hb, hml, hown, hts, hK, hN, hR, hA, hlk, hAX⟩ := C
  intro h H locs ls hP hD hS hl
  obtain ⟨q0, hq⟩ := wl_at (ad := ad) (ent := ent) σ ho
  have hset := wl_set (σ' := wI σ o (ix i) x) hD ho hq he' (fun o' h' => ⟨wI_ne σ _ _ h', rfl⟩)
  rw [show ent o (σ.1 o) (σ.2 o) = _ from he] at hq
  refine va_zast (D := D) hx hb hK hP hD hS q0 t0 hq ht hin hd (fun H1 locs1 hP1 hD1 hS1 => ?_)
  rw [hz] at hP1 hD1
  have hP1 : va_P D vwCl ((wl ids ad ent σ).set q0 (ad o, .inl (cA, n, .inl (upd (σ.1 o) (ix i) x)))) H1 := hP1
  have hD1 : va_D A ((wl ids ad ent σ).set q0 (ad o, .inl (cA, n, .inl (upd (σ.1 o) (ix i) x)))) := hD1
  rw [hset] at hP1 hD1
  exact k _ h H1 locs1 ls hP1 hD1 hS1 hl
end ROWS
end
section
section CALLS
variable {E : EnvT} {cc : ByteArray} {own : String} {nL : Nat} {rm : Room} {kc ks : Nat} {ρ : Type} {r0 : ρ} {σ : Mem} {pc : Nat} {lv : List (Nat × Value)} {st : List Value}
theorem g_ireti (C : CX E cc own nL rm) {v : Int32} (hq : QE E kc ks (some .int) (RQi v σ)) (hd : decode cc pc = .ok (.ireturn, 1)) : G E nL kc ks σ pc lv [.int v] := by
  obtain ⟨p, l, e, R, s, m, args, below, meth, c, Q, A, D, tys, ids, ad, ent⟩ := E
  obtain ⟨hx, hb, hml, hown, hts, hK, hN, hR, hA, hlk, hAX⟩ := C
  intro H locs ls hP hD hS hl
  obtain ⟨hr, hQ⟩ := hq
  subst hAX
  have hQ : Q = _ := hQ
  rw [hQ]
  exact W.iret hx hb hr (fun t ht hW => ⟨⟨v, σ, rfl, ⟨rfl, rfl⟩, by rw [ht]; exact hP, va_K.moved hW.alike hK, hD⟩, hS.F ht⟩) hS.2.2 hd hlk
theorem g_iretz (C : CX E cc own nL rm) {v : Int32} (hn : narrow .boolean (.int v) = .int v) (hq : QE E kc ks (some .boolean) (RQi v σ)) (hd : decode cc pc = .ok (.ireturn, 1)) : G E nL kc ks σ pc lv [.int v] := by
  obtain ⟨p, l, e, R, s, m, args, below, meth, c, Q, A, D, tys, ids, ad, ent⟩ := E
  obtain ⟨hx, hb, hml, hown, hts, hK, hN, hR, hA, hlk, hAX⟩ := C
  intro H locs ls hP hD hS hl
  obtain ⟨hr, hQ⟩ := hq
  subst hAX
  have hQ : Q = _ := hQ
  rw [hQ]
  exact W.zret hx hb hr hn (fun t ht hW => ⟨⟨v, σ, rfl, ⟨rfl, rfl⟩, by rw [ht]; exact hP, va_K.moved hW.alike hK, hD⟩, hS.F ht⟩) hS.2.2 hd hlk
theorem g_lret (C : CX E cc own nL rm) {v : Int64} (hq : QE E kc ks (some .long) (RQl v σ)) (hd : decode cc pc = .ok (.lreturn, 1)) : G E nL kc ks σ pc lv [.long v] := by
  obtain ⟨p, l, e, R, s, m, args, below, meth, c, Q, A, D, tys, ids, ad, ent⟩ := E
  obtain ⟨hx, hb, hml, hown, hts, hK, hN, hR, hA, hlk, hAX⟩ := C
  intro H locs ls hP hD hS hl
  obtain ⟨hr, hQ⟩ := hq
  subst hAX
  have hQ : Q = _ := hQ
  rw [hQ]
  exact W.lret hx hb hr (fun t ht hW => ⟨⟨v, σ, rfl, ⟨rfl, rfl⟩, by rw [ht]; exact hP, va_K.moved hW.alike hK, hD⟩, hS.F ht⟩) hS.2.2 hd hlk
theorem g_vret (C : CX E cc own nL rm)  (hq : QE E kc ks none (RQv σ)) (hd : decode cc pc = .ok (.return_, 1)) : G E nL kc ks σ pc lv [] := by
  obtain ⟨p, l, e, R, s, m, args, below, meth, c, Q, A, D, tys, ids, ad, ent⟩ := E
  obtain ⟨hx, hb, hml, hown, hts, hK, hN, hR, hA, hlk, hAX⟩ := C
  intro H locs ls hP hD hS hl
  obtain ⟨hr, hQ⟩ := hq
  subst hAX
  have hQ : Q = _ := hQ
  rw [hQ]
  exact W.vret hx hb hr (fun t ht hW => ⟨⟨σ, rfl, rfl, by rw [ht]; exact hP, va_K.moved hW.alike hK, hD⟩, hS.F ht⟩) hS.2.2 hd hlk
theorem g_aret (C : CX E cc own nL rm) {rt : FieldType} {v : Option Nat} (hrt : (∃ n, rt = FieldType.object n) ∨ ∃ t, rt = FieldType.array t) (hq : QE E kc ks (some rt) (RQq v σ)) (hd : decode cc pc = .ok (.areturn, 1)) : G E nL kc ks σ pc lv [va_rf (v.map (eAd E))] := by
  obtain ⟨p, l, e, R, s, m, args, below, meth, c, Q, A, D, tys, ids, ad, ent⟩ := E
  obtain ⟨hx, hb, hml, hown, hts, hK, hN, hR, hA, hlk, hAX⟩ := C
  intro H locs ls hP hD hS hl
  obtain ⟨hr, hQ⟩ := hq
  subst hAX
  have hQ : Q = _ := hQ
  rw [hQ]
  exact W.aret hx hb hr hrt (va_rf_or _) (fun t ht hW => ⟨⟨v.map ad, σ, rfl, ⟨rfl, rfl⟩, by rw [ht]; exact hP, va_K.moved hW.alike hK, hD⟩, hS.F ht⟩) hS.2.2 hd hlk
theorem j_ireti (C : CX E cc own nL rm) {v r0 : Int32} (hq : QE E kc ks (some .int) (RQi r0 σ)) (hd : decode cc pc = .ok (.ireturn, 1)) : J E nL kc ks r0 (some v) σ pc lv [.int v] := by
  intro h
  cases h
  exact g_ireti C hq hd
theorem j_ireti2 (C : CX E cc own nL rm) {v : Int32} {r0 : Int32 × Mem} (hq : QE E kc ks (some .int) (RQi r0.1 r0.2)) (hd : decode cc pc = .ok (.ireturn, 1)) : J E nL kc ks r0 (some (v, σ)) σ pc lv [.int v] := by
  intro h
  cases h
  exact g_ireti C hq hd
theorem j_iretz (C : CX E cc own nL rm) {v r0 : Int32} (hn : narrow .boolean (.int v) = .int v) (hq : QE E kc ks (some .boolean) (RQi r0 σ)) (hd : decode cc pc = .ok (.ireturn, 1)) : J E nL kc ks r0 (some v) σ pc lv [.int v] := by
  intro h
  cases h
  exact g_iretz C hn hq hd
theorem j_iretz2 (C : CX E cc own nL rm) {v : Int32} {r0 : Int32 × Mem} (hn : narrow .boolean (.int v) = .int v) (hq : QE E kc ks (some .boolean) (RQi r0.1 r0.2)) (hd : decode cc pc = .ok (.ireturn, 1)) : J E nL kc ks r0 (some (v, σ)) σ pc lv [.int v] := by
  intro h
  cases h
  exact g_iretz C hn hq hd
theorem j_lret (C : CX E cc own nL rm) {v r0 : Int64} (hq : QE E kc ks (some .long) (RQl r0 σ)) (hd : decode cc pc = .ok (.lreturn, 1)) : J E nL kc ks r0 (some v) σ pc lv [.long v] := by
  intro h
  cases h
  exact g_lret C hq hd
theorem j_lret2 (C : CX E cc own nL rm) {v : Int64} {r0 : Int64 × Mem} (hq : QE E kc ks (some .long) (RQl r0.1 r0.2)) (hd : decode cc pc = .ok (.lreturn, 1)) : J E nL kc ks r0 (some (v, σ)) σ pc lv [.long v] := by
  intro h
  cases h
  exact g_lret C hq hd
theorem j_vret2 (C : CX E cc own nL rm) {r0 : Mem} (hq : QE E kc ks none (RQv r0)) (hd : decode cc pc = .ok (.return_, 1)) : J E nL kc ks r0 (some σ) σ pc lv [] := by
  intro h
  cases h
  exact g_vret C hq hd
theorem j_aret (C : CX E cc own nL rm) {rt : FieldType} {v r0 : Option Nat} (hrt : (∃ n, rt = FieldType.object n) ∨ ∃ t, rt = FieldType.array t) (hq : QE E kc ks (some rt) (RQq r0 σ)) (hd : decode cc pc = .ok (.areturn, 1)) : J E nL kc ks r0 (some v) σ pc lv [va_rf (v.map (eAd E))] := by
  intro h
  cases h
  exact g_aret C hrt hq hd
theorem good_V {idx : Nat} {y : MethodName} {bt : ByteArray} {n : Nat} {rt : Option FieldType} {own : String} (hlink : Cond.methodLink own idx y ∈ lw_g) (hinst : Cond.instanceMethod y ∈ lw_g) (hsel : Cond.selects y.cls y y ∈ lw_g) (hini : Cond.initialized y.cls ∈ lw_g) (hcode : Cond.code y bt n rt ∈ lw_g) : GoodIn lw_g (wsV own idx y.cls y (.code y bt n rt :: lw_g)) := by
  have h : ∀ w ∈ wsV own idx y.cls y (.code y bt n rt :: lw_g), w ∈ lw_g := List.forall_mem_cons.mpr ⟨hlink, List.forall_mem_cons.mpr ⟨hinst, List.forall_mem_cons.mpr ⟨hsel, List.forall_mem_cons.mpr ⟨hini, List.forall_mem_cons.mpr ⟨hcode, fun _ h => h⟩⟩⟩⟩⟩
  exact fun w hw => ⟨h w hw, lw_good w (h w hw)⟩
theorem good_S {idx : Nat} {y : MethodName} {bt : ByteArray} {n : Nat} {rt : Option FieldType} {own : String} (hlink : Cond.methodLink own idx y ∈ lw_g) (hst : Cond.static y ∈ lw_g) (hini : Cond.initialized y.cls ∈ lw_g) (hcode : Cond.code y bt n rt ∈ lw_g) : GoodIn lw_g (va_wsS own idx y (.code y bt n rt :: lw_g)) := by
  have h : ∀ w ∈ va_wsS own idx y (.code y bt n rt :: lw_g), w ∈ lw_g := List.forall_mem_cons.mpr ⟨hlink, List.forall_mem_cons.mpr ⟨hst, List.forall_mem_cons.mpr ⟨hini, List.forall_mem_cons.mpr ⟨hcode, fun _ h => h⟩⟩⟩⟩
  exact fun w hw => ⟨h w hw, lw_good w (h w hw)⟩
theorem good_N {y : MethodName} {bt : ByteArray} {n : Nat} {rt : Option FieldType} (hcode : Cond.code y bt n rt ∈ lw_g) : GoodIn lw_g (.code y bt n rt :: lw_g) := by
  have h : ∀ w ∈ (.code y bt n rt :: lw_g : List Cond), w ∈ lw_g := List.forall_mem_cons.mpr ⟨hcode, fun _ h => h⟩
  exact fun w hw => ⟨h w hw, lw_good w (h w hw)⟩
def isNest : Cond → Bool
  | .methodLinkNest .. => true
  | _ => false
theorem lw_nest_is : ∀ w ∈ lw_nest, isNest w = true := fun w h => List.all_eq_true.mp (show lw_nest.all isNest = true from rfl) w h
theorem NW.warm {s U : State} (hW : s.WarmedH U.vm) (hN : NW s) : NW U := by
  intro w hw
  have h := hN w hw
  have hz := lw_nest_is w hw
  cases w <;> first | (simp [isNest] at hz; done) | exact va_Nw.warmM hW h
theorem j_callVi (C : CX E cc own nL rm) {y : MethodName} {bt : ByteArray} {nL' idx : Nat} {rt : Option FieldType} {rm' : Room} {o ci : Nat} {fs : List Value} {cl : vw_C} (As : List Value) {σ' : Mem} {r : Int32} {stk : List Value} {b : Option ρ} (hct : CT E y bt nL' rt rm' (.ref (eAd E o) :: As) σ (RQi r σ')) (hlink : Cond.methodLink own idx y ∈ lw_g) (hinst : Cond.instanceMethod y ∈ lw_g) (hsel : Cond.selects y.cls y y ∈ lw_g) (hini : Cond.initialized y.cls ∈ lw_g) (hcode : Cond.code y bt nL' rt ∈ lw_g) (ho : o ∈ eIds E) (he : eEnt E o (σ.1 o) (σ.2 o) = .inr (ci, fs)) (hci : vwCl[ci]? = some cl) (hcl : cl.1 = y.cls) (hdd : y.cls ≠ "java/lang/invoke/MethodHandle" ∧ y.cls ≠ "java/lang/invoke/VarHandle" ∧ (parseMethodDescriptor y.desc).map (fun d => d.parameters.length) = some As.length) (hR_ : rm'.frames + 1 ≤ rm.frames ∧ 8 + (nL' + 11) + rm'.locals ≤ rm.locals) (hrm : rm'.cells = 0 ∧ rm'.slots = 0) (hkk : kc ≤ rm.cells ∧ ks ≤ rm.slots) (hst8 : (st.map fun v => v.category).sum ≤ 8) (hd : decode cc pc = .ok (.invokevirtual idx, 3)) (hstk : stk = As.reverse ++ .ref (eAd E o) :: st) (k : J E nL kc ks r0 b σ' (pc + 3) lv (.int r :: st)) : J E nL kc ks r0 b σ pc lv stk := by
  obtain ⟨p, l, e, R, s, m, args, below, meth, c, Q, A, D, tys, ids, ad, ent⟩ := E
  obtain ⟨hx, hb, hml, hown, hts, hK, hN, hR, hA, hlk, hAX⟩ := C
  intro h H locs ls hP hD hS hl
  subst hR
  subst hstk
  have hct : ∀ sz : Nat, Met l y (.code y bt nL' rt :: lw_g) rm' (va_Pc (.ref (ad o) :: As) (PX D tys ids ad ent σ sz)) (RQi r σ' D tys ids ad ent sz) 0 0 (AX ids ad sz) := hct
  have hF : ∀ q, AX ids ad H.size q → A q := wl_free hD (fun q hq => hA q (Nat.le_trans hS.1 hq))
  have hR' := hR_
  refine va_calli (va_runV (C := y.cls) (As := As) (rest := st) ⟨hx, hb, hml, hown, hts⟩ (hct H.size) (cwV As.length hts (good_V hlink hinst hsel hini hcode) rfl hrm.1 hrm.2 ⟨rfl, hdd⟩ hR') ⟨PX_blind, (by obtain ⟨q0, hq⟩ := wl_at (ad := ad) (ent := ent) σ ho; rw [show ent o (σ.1 o) (σ.2 o) = _ from he] at hq; rw [← hcl]; exact va_recv hK hP hci hq), fun U hU hW => ⟨rfl, by rw [hU], by rw [hU]; exact hP, va_K.moved hW.alike hK, NW.warm hW hN, wl_D hD (fun _ _ => trivial)⟩⟩ rfl rfl hl.1 rfl (lv_room hst8) hd hkk) hS (fun q _ hq => hF q hq) hF (fun r_ u t H1 locs1 ht hvm hw hB hz1 hk1 hS1 => ?_)
  obtain ⟨hP1, hK1, hD1⟩ := hB
  rw [ht] at hP1
  obtain ⟨rfl, rfl⟩ := hw
  exact k h H1 locs1 ls hP1 (wl_D hD (fun o ho => by obtain ⟨k0, hk0⟩ := wl_at (ad := ad) (ent := ent) σ ho; exact hD.2 k0 _ hk0)) hS1 hl
theorem j_callSi (C : CX E cc own nL rm) {y : MethodName} {bt : ByteArray} {nL' idx : Nat} {rt : Option FieldType} {rm' : Room} (As : List Value) {σ' : Mem} {r : Int32} {stk : List Value} {b : Option ρ} (hct : CT E y bt nL' rt rm' (As) σ (RQi r σ')) (hlink : Cond.methodLink own idx y ∈ lw_g) (hst : Cond.static y ∈ lw_g) (hini : Cond.initialized y.cls ∈ lw_g) (hcode : Cond.code y bt nL' rt ∈ lw_g) (hdd : y.cls ≠ "java/lang/invoke/MethodHandle" ∧ y.cls ≠ "java/lang/invoke/VarHandle" ∧ (parseMethodDescriptor y.desc).map (fun d => d.parameters.length) = some As.length) (hR_ : rm'.frames + 1 ≤ rm.frames ∧ 8 + (nL' + 11) + rm'.locals ≤ rm.locals) (hrm : rm'.cells = 0 ∧ rm'.slots = 0) (hkk : kc ≤ rm.cells ∧ ks ≤ rm.slots) (hst8 : (st.map fun v => v.category).sum ≤ 8) (hd : decode cc pc = .ok (.invokestatic idx, 3)) (hstk : stk = As.reverse ++ st) (k : J E nL kc ks r0 b σ' (pc + 3) lv (.int r :: st)) : J E nL kc ks r0 b σ pc lv stk := by
  obtain ⟨p, l, e, R, s, m, args, below, meth, c, Q, A, D, tys, ids, ad, ent⟩ := E
  obtain ⟨hx, hb, hml, hown, hts, hK, hN, hR, hA, hlk, hAX⟩ := C
  intro h H locs ls hP hD hS hl
  subst hR
  subst hstk
  have hct : ∀ sz : Nat, Met l y (.code y bt nL' rt :: lw_g) rm' (va_Pc (As) (PX D tys ids ad ent σ sz)) (RQi r σ' D tys ids ad ent sz) 0 0 (AX ids ad sz) := hct
  have hF : ∀ q, AX ids ad H.size q → A q := wl_free hD (fun q hq => hA q (Nat.le_trans hS.1 hq))
  have hR' := hR_
  refine va_calli (va_runS (As := As) (rest := st) ⟨hx, hb, hml, hown, hts⟩ (hct H.size) (va_cwS As.length hts (good_S hlink hst hini hcode) rfl hrm.1 hrm.2 hdd hR') ⟨PX_blind, fun U hU hW => ⟨rfl, by rw [hU], by rw [hU]; exact hP, va_K.moved hW.alike hK, NW.warm hW hN, wl_D hD (fun _ _ => trivial)⟩⟩ rfl rfl hl.1 rfl (lv_room hst8) hd hkk) hS (fun q _ hq => hF q hq) hF (fun r_ u t H1 locs1 ht hvm hw hB hz1 hk1 hS1 => ?_)
  obtain ⟨hP1, hK1, hD1⟩ := hB
  rw [ht] at hP1
  obtain ⟨rfl, rfl⟩ := hw
  exact k h H1 locs1 ls hP1 (wl_D hD (fun o ho => by obtain ⟨k0, hk0⟩ := wl_at (ad := ad) (ent := ent) σ ho; exact hD.2 k0 _ hk0)) hS1 hl
theorem j_callNi (C : CX E cc own nL rm) {y : MethodName} {bt : ByteArray} {nL' idx : Nat} {rt : Option FieldType} {rm' : Room} {host : String} (As : List Value) {σ' : Mem} {r : Int32} {stk : List Value} {b : Option ρ} (hct : CT E y bt nL' rt rm' (As) σ (RQi r σ')) (hlink : Cond.methodLinkNest own idx y host ∈ lw_nest) (hst : Cond.static y ∈ lw_g) (hini : Cond.initialized y.cls ∈ lw_g) (hcode : Cond.code y bt nL' rt ∈ lw_g) (hdd : y.cls ≠ "java/lang/invoke/MethodHandle" ∧ y.cls ≠ "java/lang/invoke/VarHandle" ∧ (parseMethodDescriptor y.desc).map (fun d => d.parameters.length) = some As.length) (hR_ : rm'.frames + 1 ≤ rm.frames ∧ 8 + (nL' + 11) + rm'.locals ≤ rm.locals) (hrm : rm'.cells = 0 ∧ rm'.slots = 0) (hkk : kc ≤ rm.cells ∧ ks ≤ rm.slots) (hst8 : (st.map fun v => v.category).sum ≤ 8) (hd : decode cc pc = .ok (.invokestatic idx, 3)) (hstk : stk = As.reverse ++ st) (k : J E nL kc ks r0 b σ' (pc + 3) lv (.int r :: st)) : J E nL kc ks r0 b σ pc lv stk := by
  obtain ⟨p, l, e, R, s, m, args, below, meth, c, Q, A, D, tys, ids, ad, ent⟩ := E
  obtain ⟨hx, hb, hml, hown, hts, hK, hN, hR, hA, hlk, hAX⟩ := C
  intro h H locs ls hP hD hS hl
  subst hR
  subst hstk
  have hct : ∀ sz : Nat, Met l y (.code y bt nL' rt :: lw_g) rm' (va_Pc (As) (PX D tys ids ad ent σ sz)) (RQi r σ' D tys ids ad ent sz) 0 0 (AX ids ad sz) := hct
  have hF : ∀ q, AX ids ad H.size q → A q := wl_free hD (fun q hq => hA q (Nat.le_trans hS.1 hq))
  have hR' := hR_
  refine va_calli (va_runSN (As := As) (rest := st) ⟨hx, hb, hml, hown, hts⟩ (hct H.size) ⟨va_cnB As.length hts (good_N hcode) rfl hrm.1 hrm.2 (hN _ hlink) (hts _ hini) hdd hR', hts _ hst, trivial⟩ ⟨PX_blind, fun U hU hW => ⟨rfl, by rw [hU], by rw [hU]; exact hP, va_K.moved hW.alike hK, NW.warm hW hN, wl_D hD (fun _ _ => trivial)⟩⟩ rfl rfl hl.1 rfl (lv_room hst8) hd hkk) hS (fun q _ hq => hF q hq) hF (fun r_ u t H1 locs1 ht hvm hw hB hz1 hk1 hS1 => ?_)
  obtain ⟨hP1, hK1, hD1⟩ := hB
  rw [ht] at hP1
  obtain ⟨rfl, rfl⟩ := hw
  exact k h H1 locs1 ls hP1 (wl_D hD (fun o ho => by obtain ⟨k0, hk0⟩ := wl_at (ad := ad) (ent := ent) σ ho; exact hD.2 k0 _ hk0)) hS1 hl
theorem j_callVl (C : CX E cc own nL rm) {y : MethodName} {bt : ByteArray} {nL' idx : Nat} {rt : Option FieldType} {rm' : Room} {o ci : Nat} {fs : List Value} {cl : vw_C} (As : List Value) {σ' : Mem} {r : Int64} {stk : List Value} {b : Option ρ} (hct : CT E y bt nL' rt rm' (.ref (eAd E o) :: As) σ (RQl r σ')) (hlink : Cond.methodLink own idx y ∈ lw_g) (hinst : Cond.instanceMethod y ∈ lw_g) (hsel : Cond.selects y.cls y y ∈ lw_g) (hini : Cond.initialized y.cls ∈ lw_g) (hcode : Cond.code y bt nL' rt ∈ lw_g) (ho : o ∈ eIds E) (he : eEnt E o (σ.1 o) (σ.2 o) = .inr (ci, fs)) (hci : vwCl[ci]? = some cl) (hcl : cl.1 = y.cls) (hdd : y.cls ≠ "java/lang/invoke/MethodHandle" ∧ y.cls ≠ "java/lang/invoke/VarHandle" ∧ (parseMethodDescriptor y.desc).map (fun d => d.parameters.length) = some As.length) (hR_ : rm'.frames + 1 ≤ rm.frames ∧ 8 + (nL' + 11) + rm'.locals ≤ rm.locals) (hrm : rm'.cells = 0 ∧ rm'.slots = 0) (hkk : kc ≤ rm.cells ∧ ks ≤ rm.slots) (hst8 : (st.map fun v => v.category).sum ≤ 8) (hd : decode cc pc = .ok (.invokevirtual idx, 3)) (hstk : stk = As.reverse ++ .ref (eAd E o) :: st) (k : J E nL kc ks r0 b σ' (pc + 3) lv (.long r :: st)) : J E nL kc ks r0 b σ pc lv stk := by
  obtain ⟨p, l, e, R, s, m, args, below, meth, c, Q, A, D, tys, ids, ad, ent⟩ := E
  obtain ⟨hx, hb, hml, hown, hts, hK, hN, hR, hA, hlk, hAX⟩ := C
  intro h H locs ls hP hD hS hl
  subst hR
  subst hstk
  have hct : ∀ sz : Nat, Met l y (.code y bt nL' rt :: lw_g) rm' (va_Pc (.ref (ad o) :: As) (PX D tys ids ad ent σ sz)) (RQl r σ' D tys ids ad ent sz) 0 0 (AX ids ad sz) := hct
  have hF : ∀ q, AX ids ad H.size q → A q := wl_free hD (fun q hq => hA q (Nat.le_trans hS.1 hq))
  have hR' := hR_
  refine va_calll (va_runV (C := y.cls) (As := As) (rest := st) ⟨hx, hb, hml, hown, hts⟩ (hct H.size) (cwV As.length hts (good_V hlink hinst hsel hini hcode) rfl hrm.1 hrm.2 ⟨rfl, hdd⟩ hR') ⟨PX_blind, (by obtain ⟨q0, hq⟩ := wl_at (ad := ad) (ent := ent) σ ho; rw [show ent o (σ.1 o) (σ.2 o) = _ from he] at hq; rw [← hcl]; exact va_recv hK hP hci hq), fun U hU hW => ⟨rfl, by rw [hU], by rw [hU]; exact hP, va_K.moved hW.alike hK, NW.warm hW hN, wl_D hD (fun _ _ => trivial)⟩⟩ rfl rfl hl.1 rfl (lv_room hst8) hd hkk) hS (fun q _ hq => hF q hq) hF (fun r_ u t H1 locs1 ht hvm hw hB hz1 hk1 hS1 => ?_)
  obtain ⟨hP1, hK1, hD1⟩ := hB
  rw [ht] at hP1
  obtain ⟨rfl, rfl⟩ := hw
  exact k h H1 locs1 ls hP1 (wl_D hD (fun o ho => by obtain ⟨k0, hk0⟩ := wl_at (ad := ad) (ent := ent) σ ho; exact hD.2 k0 _ hk0)) hS1 hl
theorem j_callSl (C : CX E cc own nL rm) {y : MethodName} {bt : ByteArray} {nL' idx : Nat} {rt : Option FieldType} {rm' : Room} (As : List Value) {σ' : Mem} {r : Int64} {stk : List Value} {b : Option ρ} (hct : CT E y bt nL' rt rm' (As) σ (RQl r σ')) (hlink : Cond.methodLink own idx y ∈ lw_g) (hst : Cond.static y ∈ lw_g) (hini : Cond.initialized y.cls ∈ lw_g) (hcode : Cond.code y bt nL' rt ∈ lw_g) (hdd : y.cls ≠ "java/lang/invoke/MethodHandle" ∧ y.cls ≠ "java/lang/invoke/VarHandle" ∧ (parseMethodDescriptor y.desc).map (fun d => d.parameters.length) = some As.length) (hR_ : rm'.frames + 1 ≤ rm.frames ∧ 8 + (nL' + 11) + rm'.locals ≤ rm.locals) (hrm : rm'.cells = 0 ∧ rm'.slots = 0) (hkk : kc ≤ rm.cells ∧ ks ≤ rm.slots) (hst8 : (st.map fun v => v.category).sum ≤ 8) (hd : decode cc pc = .ok (.invokestatic idx, 3)) (hstk : stk = As.reverse ++ st) (k : J E nL kc ks r0 b σ' (pc + 3) lv (.long r :: st)) : J E nL kc ks r0 b σ pc lv stk := by
  obtain ⟨p, l, e, R, s, m, args, below, meth, c, Q, A, D, tys, ids, ad, ent⟩ := E
  obtain ⟨hx, hb, hml, hown, hts, hK, hN, hR, hA, hlk, hAX⟩ := C
  intro h H locs ls hP hD hS hl
  subst hR
  subst hstk
  have hct : ∀ sz : Nat, Met l y (.code y bt nL' rt :: lw_g) rm' (va_Pc (As) (PX D tys ids ad ent σ sz)) (RQl r σ' D tys ids ad ent sz) 0 0 (AX ids ad sz) := hct
  have hF : ∀ q, AX ids ad H.size q → A q := wl_free hD (fun q hq => hA q (Nat.le_trans hS.1 hq))
  have hR' := hR_
  refine va_calll (va_runS (As := As) (rest := st) ⟨hx, hb, hml, hown, hts⟩ (hct H.size) (va_cwS As.length hts (good_S hlink hst hini hcode) rfl hrm.1 hrm.2 hdd hR') ⟨PX_blind, fun U hU hW => ⟨rfl, by rw [hU], by rw [hU]; exact hP, va_K.moved hW.alike hK, NW.warm hW hN, wl_D hD (fun _ _ => trivial)⟩⟩ rfl rfl hl.1 rfl (lv_room hst8) hd hkk) hS (fun q _ hq => hF q hq) hF (fun r_ u t H1 locs1 ht hvm hw hB hz1 hk1 hS1 => ?_)
  obtain ⟨hP1, hK1, hD1⟩ := hB
  rw [ht] at hP1
  obtain ⟨rfl, rfl⟩ := hw
  exact k h H1 locs1 ls hP1 (wl_D hD (fun o ho => by obtain ⟨k0, hk0⟩ := wl_at (ad := ad) (ent := ent) σ ho; exact hD.2 k0 _ hk0)) hS1 hl
theorem j_callNl (C : CX E cc own nL rm) {y : MethodName} {bt : ByteArray} {nL' idx : Nat} {rt : Option FieldType} {rm' : Room} {host : String} (As : List Value) {σ' : Mem} {r : Int64} {stk : List Value} {b : Option ρ} (hct : CT E y bt nL' rt rm' (As) σ (RQl r σ')) (hlink : Cond.methodLinkNest own idx y host ∈ lw_nest) (hst : Cond.static y ∈ lw_g) (hini : Cond.initialized y.cls ∈ lw_g) (hcode : Cond.code y bt nL' rt ∈ lw_g) (hdd : y.cls ≠ "java/lang/invoke/MethodHandle" ∧ y.cls ≠ "java/lang/invoke/VarHandle" ∧ (parseMethodDescriptor y.desc).map (fun d => d.parameters.length) = some As.length) (hR_ : rm'.frames + 1 ≤ rm.frames ∧ 8 + (nL' + 11) + rm'.locals ≤ rm.locals) (hrm : rm'.cells = 0 ∧ rm'.slots = 0) (hkk : kc ≤ rm.cells ∧ ks ≤ rm.slots) (hst8 : (st.map fun v => v.category).sum ≤ 8) (hd : decode cc pc = .ok (.invokestatic idx, 3)) (hstk : stk = As.reverse ++ st) (k : J E nL kc ks r0 b σ' (pc + 3) lv (.long r :: st)) : J E nL kc ks r0 b σ pc lv stk := by
  obtain ⟨p, l, e, R, s, m, args, below, meth, c, Q, A, D, tys, ids, ad, ent⟩ := E
  obtain ⟨hx, hb, hml, hown, hts, hK, hN, hR, hA, hlk, hAX⟩ := C
  intro h H locs ls hP hD hS hl
  subst hR
  subst hstk
  have hct : ∀ sz : Nat, Met l y (.code y bt nL' rt :: lw_g) rm' (va_Pc (As) (PX D tys ids ad ent σ sz)) (RQl r σ' D tys ids ad ent sz) 0 0 (AX ids ad sz) := hct
  have hF : ∀ q, AX ids ad H.size q → A q := wl_free hD (fun q hq => hA q (Nat.le_trans hS.1 hq))
  have hR' := hR_
  refine va_calll (va_runSN (As := As) (rest := st) ⟨hx, hb, hml, hown, hts⟩ (hct H.size) ⟨va_cnB As.length hts (good_N hcode) rfl hrm.1 hrm.2 (hN _ hlink) (hts _ hini) hdd hR', hts _ hst, trivial⟩ ⟨PX_blind, fun U hU hW => ⟨rfl, by rw [hU], by rw [hU]; exact hP, va_K.moved hW.alike hK, NW.warm hW hN, wl_D hD (fun _ _ => trivial)⟩⟩ rfl rfl hl.1 rfl (lv_room hst8) hd hkk) hS (fun q _ hq => hF q hq) hF (fun r_ u t H1 locs1 ht hvm hw hB hz1 hk1 hS1 => ?_)
  obtain ⟨hP1, hK1, hD1⟩ := hB
  rw [ht] at hP1
  obtain ⟨rfl, rfl⟩ := hw
  exact k h H1 locs1 ls hP1 (wl_D hD (fun o ho => by obtain ⟨k0, hk0⟩ := wl_at (ad := ad) (ent := ent) σ ho; exact hD.2 k0 _ hk0)) hS1 hl
theorem j_callVv (C : CX E cc own nL rm) {y : MethodName} {bt : ByteArray} {nL' idx : Nat} {rt : Option FieldType} {rm' : Room} {o ci : Nat} {fs : List Value} {cl : vw_C} (As : List Value) {σ' : Mem}  {stk : List Value} {b : Option ρ} (hct : CT E y bt nL' rt rm' (.ref (eAd E o) :: As) σ (RQv σ')) (hlink : Cond.methodLink own idx y ∈ lw_g) (hinst : Cond.instanceMethod y ∈ lw_g) (hsel : Cond.selects y.cls y y ∈ lw_g) (hini : Cond.initialized y.cls ∈ lw_g) (hcode : Cond.code y bt nL' rt ∈ lw_g) (ho : o ∈ eIds E) (he : eEnt E o (σ.1 o) (σ.2 o) = .inr (ci, fs)) (hci : vwCl[ci]? = some cl) (hcl : cl.1 = y.cls) (hdd : y.cls ≠ "java/lang/invoke/MethodHandle" ∧ y.cls ≠ "java/lang/invoke/VarHandle" ∧ (parseMethodDescriptor y.desc).map (fun d => d.parameters.length) = some As.length) (hR_ : rm'.frames + 1 ≤ rm.frames ∧ 8 + (nL' + 11) + rm'.locals ≤ rm.locals) (hrm : rm'.cells = 0 ∧ rm'.slots = 0) (hkk : kc ≤ rm.cells ∧ ks ≤ rm.slots) (hst8 : (st.map fun v => v.category).sum ≤ 8) (hd : decode cc pc = .ok (.invokevirtual idx, 3)) (hstk : stk = As.reverse ++ .ref (eAd E o) :: st) (k : J E nL kc ks r0 b σ' (pc + 3) lv (st)) : J E nL kc ks r0 b σ pc lv stk := by
  obtain ⟨p, l, e, R, s, m, args, below, meth, c, Q, A, D, tys, ids, ad, ent⟩ := E
  obtain ⟨hx, hb, hml, hown, hts, hK, hN, hR, hA, hlk, hAX⟩ := C
  intro h H locs ls hP hD hS hl
  subst hR
  subst hstk
  have hct : ∀ sz : Nat, Met l y (.code y bt nL' rt :: lw_g) rm' (va_Pc (.ref (ad o) :: As) (PX D tys ids ad ent σ sz)) (RQv σ' D tys ids ad ent sz) 0 0 (AX ids ad sz) := hct
  have hF : ∀ q, AX ids ad H.size q → A q := wl_free hD (fun q hq => hA q (Nat.le_trans hS.1 hq))
  have hR' := hR_
  refine va_callv (va_runV (C := y.cls) (As := As) (rest := st) ⟨hx, hb, hml, hown, hts⟩ (hct H.size) (cwV As.length hts (good_V hlink hinst hsel hini hcode) rfl hrm.1 hrm.2 ⟨rfl, hdd⟩ hR') ⟨PX_blind, (by obtain ⟨q0, hq⟩ := wl_at (ad := ad) (ent := ent) σ ho; rw [show ent o (σ.1 o) (σ.2 o) = _ from he] at hq; rw [← hcl]; exact va_recv hK hP hci hq), fun U hU hW => ⟨rfl, by rw [hU], by rw [hU]; exact hP, va_K.moved hW.alike hK, NW.warm hW hN, wl_D hD (fun _ _ => trivial)⟩⟩ rfl rfl hl.1 rfl (lv_room hst8) hd hkk) hS (fun q _ hq => hF q hq) hF (fun u t H1 locs1 ht hvm hw hB hz1 hk1 hS1 => ?_)
  obtain ⟨hP1, hK1, hD1⟩ := hB
  rw [ht] at hP1
  have hw : u = σ' := hw
  subst hw
  exact k h H1 locs1 ls hP1 (wl_D hD (fun o ho => by obtain ⟨k0, hk0⟩ := wl_at (ad := ad) (ent := ent) σ ho; exact hD.2 k0 _ hk0)) hS1 hl
theorem j_callSv (C : CX E cc own nL rm) {y : MethodName} {bt : ByteArray} {nL' idx : Nat} {rt : Option FieldType} {rm' : Room} (As : List Value) {σ' : Mem}  {stk : List Value} {b : Option ρ} (hct : CT E y bt nL' rt rm' (As) σ (RQv σ')) (hlink : Cond.methodLink own idx y ∈ lw_g) (hst : Cond.static y ∈ lw_g) (hini : Cond.initialized y.cls ∈ lw_g) (hcode : Cond.code y bt nL' rt ∈ lw_g) (hdd : y.cls ≠ "java/lang/invoke/MethodHandle" ∧ y.cls ≠ "java/lang/invoke/VarHandle" ∧ (parseMethodDescriptor y.desc).map (fun d => d.parameters.length) = some As.length) (hR_ : rm'.frames + 1 ≤ rm.frames ∧ 8 + (nL' + 11) + rm'.locals ≤ rm.locals) (hrm : rm'.cells = 0 ∧ rm'.slots = 0) (hkk : kc ≤ rm.cells ∧ ks ≤ rm.slots) (hst8 : (st.map fun v => v.category).sum ≤ 8) (hd : decode cc pc = .ok (.invokestatic idx, 3)) (hstk : stk = As.reverse ++ st) (k : J E nL kc ks r0 b σ' (pc + 3) lv (st)) : J E nL kc ks r0 b σ pc lv stk := by
  obtain ⟨p, l, e, R, s, m, args, below, meth, c, Q, A, D, tys, ids, ad, ent⟩ := E
  obtain ⟨hx, hb, hml, hown, hts, hK, hN, hR, hA, hlk, hAX⟩ := C
  intro h H locs ls hP hD hS hl
  subst hR
  subst hstk
  have hct : ∀ sz : Nat, Met l y (.code y bt nL' rt :: lw_g) rm' (va_Pc (As) (PX D tys ids ad ent σ sz)) (RQv σ' D tys ids ad ent sz) 0 0 (AX ids ad sz) := hct
  have hF : ∀ q, AX ids ad H.size q → A q := wl_free hD (fun q hq => hA q (Nat.le_trans hS.1 hq))
  have hR' := hR_
  refine va_callv (va_runS (As := As) (rest := st) ⟨hx, hb, hml, hown, hts⟩ (hct H.size) (va_cwS As.length hts (good_S hlink hst hini hcode) rfl hrm.1 hrm.2 hdd hR') ⟨PX_blind, fun U hU hW => ⟨rfl, by rw [hU], by rw [hU]; exact hP, va_K.moved hW.alike hK, NW.warm hW hN, wl_D hD (fun _ _ => trivial)⟩⟩ rfl rfl hl.1 rfl (lv_room hst8) hd hkk) hS (fun q _ hq => hF q hq) hF (fun u t H1 locs1 ht hvm hw hB hz1 hk1 hS1 => ?_)
  obtain ⟨hP1, hK1, hD1⟩ := hB
  rw [ht] at hP1
  have hw : u = σ' := hw
  subst hw
  exact k h H1 locs1 ls hP1 (wl_D hD (fun o ho => by obtain ⟨k0, hk0⟩ := wl_at (ad := ad) (ent := ent) σ ho; exact hD.2 k0 _ hk0)) hS1 hl
theorem j_callNv (C : CX E cc own nL rm) {y : MethodName} {bt : ByteArray} {nL' idx : Nat} {rt : Option FieldType} {rm' : Room} {host : String} (As : List Value) {σ' : Mem}  {stk : List Value} {b : Option ρ} (hct : CT E y bt nL' rt rm' (As) σ (RQv σ')) (hlink : Cond.methodLinkNest own idx y host ∈ lw_nest) (hst : Cond.static y ∈ lw_g) (hini : Cond.initialized y.cls ∈ lw_g) (hcode : Cond.code y bt nL' rt ∈ lw_g) (hdd : y.cls ≠ "java/lang/invoke/MethodHandle" ∧ y.cls ≠ "java/lang/invoke/VarHandle" ∧ (parseMethodDescriptor y.desc).map (fun d => d.parameters.length) = some As.length) (hR_ : rm'.frames + 1 ≤ rm.frames ∧ 8 + (nL' + 11) + rm'.locals ≤ rm.locals) (hrm : rm'.cells = 0 ∧ rm'.slots = 0) (hkk : kc ≤ rm.cells ∧ ks ≤ rm.slots) (hst8 : (st.map fun v => v.category).sum ≤ 8) (hd : decode cc pc = .ok (.invokestatic idx, 3)) (hstk : stk = As.reverse ++ st) (k : J E nL kc ks r0 b σ' (pc + 3) lv (st)) : J E nL kc ks r0 b σ pc lv stk := by
  obtain ⟨p, l, e, R, s, m, args, below, meth, c, Q, A, D, tys, ids, ad, ent⟩ := E
  obtain ⟨hx, hb, hml, hown, hts, hK, hN, hR, hA, hlk, hAX⟩ := C
  intro h H locs ls hP hD hS hl
  subst hR
  subst hstk
  have hct : ∀ sz : Nat, Met l y (.code y bt nL' rt :: lw_g) rm' (va_Pc (As) (PX D tys ids ad ent σ sz)) (RQv σ' D tys ids ad ent sz) 0 0 (AX ids ad sz) := hct
  have hF : ∀ q, AX ids ad H.size q → A q := wl_free hD (fun q hq => hA q (Nat.le_trans hS.1 hq))
  have hR' := hR_
  refine va_callv (va_runSN (As := As) (rest := st) ⟨hx, hb, hml, hown, hts⟩ (hct H.size) ⟨va_cnB As.length hts (good_N hcode) rfl hrm.1 hrm.2 (hN _ hlink) (hts _ hini) hdd hR', hts _ hst, trivial⟩ ⟨PX_blind, fun U hU hW => ⟨rfl, by rw [hU], by rw [hU]; exact hP, va_K.moved hW.alike hK, NW.warm hW hN, wl_D hD (fun _ _ => trivial)⟩⟩ rfl rfl hl.1 rfl (lv_room hst8) hd hkk) hS (fun q _ hq => hF q hq) hF (fun u t H1 locs1 ht hvm hw hB hz1 hk1 hS1 => ?_)
  obtain ⟨hP1, hK1, hD1⟩ := hB
  rw [ht] at hP1
  have hw : u = σ' := hw
  subst hw
  exact k h H1 locs1 ls hP1 (wl_D hD (fun o ho => by obtain ⟨k0, hk0⟩ := wl_at (ad := ad) (ent := ent) σ ho; exact hD.2 k0 _ hk0)) hS1 hl
theorem j_callVq (C : CX E cc own nL rm) {y : MethodName} {bt : ByteArray} {nL' idx : Nat} {rt : Option FieldType} {rm' : Room} {o ci : Nat} {fs : List Value} {cl : vw_C} (As : List Value) {σ' : Mem} {r : Option Nat} {stk : List Value} {b : Option ρ} (hct : CT E y bt nL' rt rm' (.ref (eAd E o) :: As) σ (RQq r σ')) (hlink : Cond.methodLink own idx y ∈ lw_g) (hinst : Cond.instanceMethod y ∈ lw_g) (hsel : Cond.selects y.cls y y ∈ lw_g) (hini : Cond.initialized y.cls ∈ lw_g) (hcode : Cond.code y bt nL' rt ∈ lw_g) (ho : o ∈ eIds E) (he : eEnt E o (σ.1 o) (σ.2 o) = .inr (ci, fs)) (hci : vwCl[ci]? = some cl) (hcl : cl.1 = y.cls) (hdd : y.cls ≠ "java/lang/invoke/MethodHandle" ∧ y.cls ≠ "java/lang/invoke/VarHandle" ∧ (parseMethodDescriptor y.desc).map (fun d => d.parameters.length) = some As.length) (hR_ : rm'.frames + 1 ≤ rm.frames ∧ 8 + (nL' + 11) + rm'.locals ≤ rm.locals) (hrm : rm'.cells = 0 ∧ rm'.slots = 0) (hkk : kc ≤ rm.cells ∧ ks ≤ rm.slots) (hst8 : (st.map fun v => v.category).sum ≤ 8) (hd : decode cc pc = .ok (.invokevirtual idx, 3)) (hstk : stk = As.reverse ++ .ref (eAd E o) :: st) (k : J E nL kc ks r0 b σ' (pc + 3) lv (va_rf (r.map (eAd E)) :: st)) : J E nL kc ks r0 b σ pc lv stk := by
  obtain ⟨p, l, e, R, s, m, args, below, meth, c, Q, A, D, tys, ids, ad, ent⟩ := E
  obtain ⟨hx, hb, hml, hown, hts, hK, hN, hR, hA, hlk, hAX⟩ := C
  intro h H locs ls hP hD hS hl
  subst hR
  subst hstk
  have hct : ∀ sz : Nat, Met l y (.code y bt nL' rt :: lw_g) rm' (va_Pc (.ref (ad o) :: As) (PX D tys ids ad ent σ sz)) (RQq r σ' D tys ids ad ent sz) 0 0 (AX ids ad sz) := hct
  have hF : ∀ q, AX ids ad H.size q → A q := wl_free hD (fun q hq => hA q (Nat.le_trans hS.1 hq))
  have hR' := hR_
  refine va_callq (va_runV (C := y.cls) (As := As) (rest := st) ⟨hx, hb, hml, hown, hts⟩ (hct H.size) (cwV As.length hts (good_V hlink hinst hsel hini hcode) rfl hrm.1 hrm.2 ⟨rfl, hdd⟩ hR') ⟨PX_blind, (by obtain ⟨q0, hq⟩ := wl_at (ad := ad) (ent := ent) σ ho; rw [show ent o (σ.1 o) (σ.2 o) = _ from he] at hq; rw [← hcl]; exact va_recv hK hP hci hq), fun U hU hW => ⟨rfl, by rw [hU], by rw [hU]; exact hP, va_K.moved hW.alike hK, NW.warm hW hN, wl_D hD (fun _ _ => trivial)⟩⟩ rfl rfl hl.1 rfl (lv_room hst8) hd hkk) hS (fun q _ hq => hF q hq) hF (fun r_ u t H1 locs1 ht hvm hw hB hz1 hk1 hS1 => ?_)
  obtain ⟨hP1, hK1, hD1⟩ := hB
  rw [ht] at hP1
  obtain ⟨rfl, rfl⟩ := hw
  exact k h H1 locs1 ls hP1 (wl_D hD (fun o ho => by obtain ⟨k0, hk0⟩ := wl_at (ad := ad) (ent := ent) σ ho; exact hD.2 k0 _ hk0)) hS1 hl
theorem j_callSq (C : CX E cc own nL rm) {y : MethodName} {bt : ByteArray} {nL' idx : Nat} {rt : Option FieldType} {rm' : Room} (As : List Value) {σ' : Mem} {r : Option Nat} {stk : List Value} {b : Option ρ} (hct : CT E y bt nL' rt rm' (As) σ (RQq r σ')) (hlink : Cond.methodLink own idx y ∈ lw_g) (hst : Cond.static y ∈ lw_g) (hini : Cond.initialized y.cls ∈ lw_g) (hcode : Cond.code y bt nL' rt ∈ lw_g) (hdd : y.cls ≠ "java/lang/invoke/MethodHandle" ∧ y.cls ≠ "java/lang/invoke/VarHandle" ∧ (parseMethodDescriptor y.desc).map (fun d => d.parameters.length) = some As.length) (hR_ : rm'.frames + 1 ≤ rm.frames ∧ 8 + (nL' + 11) + rm'.locals ≤ rm.locals) (hrm : rm'.cells = 0 ∧ rm'.slots = 0) (hkk : kc ≤ rm.cells ∧ ks ≤ rm.slots) (hst8 : (st.map fun v => v.category).sum ≤ 8) (hd : decode cc pc = .ok (.invokestatic idx, 3)) (hstk : stk = As.reverse ++ st) (k : J E nL kc ks r0 b σ' (pc + 3) lv (va_rf (r.map (eAd E)) :: st)) : J E nL kc ks r0 b σ pc lv stk := by
  obtain ⟨p, l, e, R, s, m, args, below, meth, c, Q, A, D, tys, ids, ad, ent⟩ := E
  obtain ⟨hx, hb, hml, hown, hts, hK, hN, hR, hA, hlk, hAX⟩ := C
  intro h H locs ls hP hD hS hl
  subst hR
  subst hstk
  have hct : ∀ sz : Nat, Met l y (.code y bt nL' rt :: lw_g) rm' (va_Pc (As) (PX D tys ids ad ent σ sz)) (RQq r σ' D tys ids ad ent sz) 0 0 (AX ids ad sz) := hct
  have hF : ∀ q, AX ids ad H.size q → A q := wl_free hD (fun q hq => hA q (Nat.le_trans hS.1 hq))
  have hR' := hR_
  refine va_callq (va_runS (As := As) (rest := st) ⟨hx, hb, hml, hown, hts⟩ (hct H.size) (va_cwS As.length hts (good_S hlink hst hini hcode) rfl hrm.1 hrm.2 hdd hR') ⟨PX_blind, fun U hU hW => ⟨rfl, by rw [hU], by rw [hU]; exact hP, va_K.moved hW.alike hK, NW.warm hW hN, wl_D hD (fun _ _ => trivial)⟩⟩ rfl rfl hl.1 rfl (lv_room hst8) hd hkk) hS (fun q _ hq => hF q hq) hF (fun r_ u t H1 locs1 ht hvm hw hB hz1 hk1 hS1 => ?_)
  obtain ⟨hP1, hK1, hD1⟩ := hB
  rw [ht] at hP1
  obtain ⟨rfl, rfl⟩ := hw
  exact k h H1 locs1 ls hP1 (wl_D hD (fun o ho => by obtain ⟨k0, hk0⟩ := wl_at (ad := ad) (ent := ent) σ ho; exact hD.2 k0 _ hk0)) hS1 hl
theorem j_callNq (C : CX E cc own nL rm) {y : MethodName} {bt : ByteArray} {nL' idx : Nat} {rt : Option FieldType} {rm' : Room} {host : String} (As : List Value) {σ' : Mem} {r : Option Nat} {stk : List Value} {b : Option ρ} (hct : CT E y bt nL' rt rm' (As) σ (RQq r σ')) (hlink : Cond.methodLinkNest own idx y host ∈ lw_nest) (hst : Cond.static y ∈ lw_g) (hini : Cond.initialized y.cls ∈ lw_g) (hcode : Cond.code y bt nL' rt ∈ lw_g) (hdd : y.cls ≠ "java/lang/invoke/MethodHandle" ∧ y.cls ≠ "java/lang/invoke/VarHandle" ∧ (parseMethodDescriptor y.desc).map (fun d => d.parameters.length) = some As.length) (hR_ : rm'.frames + 1 ≤ rm.frames ∧ 8 + (nL' + 11) + rm'.locals ≤ rm.locals) (hrm : rm'.cells = 0 ∧ rm'.slots = 0) (hkk : kc ≤ rm.cells ∧ ks ≤ rm.slots) (hst8 : (st.map fun v => v.category).sum ≤ 8) (hd : decode cc pc = .ok (.invokestatic idx, 3)) (hstk : stk = As.reverse ++ st) (k : J E nL kc ks r0 b σ' (pc + 3) lv (va_rf (r.map (eAd E)) :: st)) : J E nL kc ks r0 b σ pc lv stk := by
  obtain ⟨p, l, e, R, s, m, args, below, meth, c, Q, A, D, tys, ids, ad, ent⟩ := E
  obtain ⟨hx, hb, hml, hown, hts, hK, hN, hR, hA, hlk, hAX⟩ := C
  intro h H locs ls hP hD hS hl
  subst hR
  subst hstk
  have hct : ∀ sz : Nat, Met l y (.code y bt nL' rt :: lw_g) rm' (va_Pc (As) (PX D tys ids ad ent σ sz)) (RQq r σ' D tys ids ad ent sz) 0 0 (AX ids ad sz) := hct
  have hF : ∀ q, AX ids ad H.size q → A q := wl_free hD (fun q hq => hA q (Nat.le_trans hS.1 hq))
  have hR' := hR_
  refine va_callq (va_runSN (As := As) (rest := st) ⟨hx, hb, hml, hown, hts⟩ (hct H.size) ⟨va_cnB As.length hts (good_N hcode) rfl hrm.1 hrm.2 (hN _ hlink) (hts _ hini) hdd hR', hts _ hst, trivial⟩ ⟨PX_blind, fun U hU hW => ⟨rfl, by rw [hU], by rw [hU]; exact hP, va_K.moved hW.alike hK, NW.warm hW hN, wl_D hD (fun _ _ => trivial)⟩⟩ rfl rfl hl.1 rfl (lv_room hst8) hd hkk) hS (fun q _ hq => hF q hq) hF (fun r_ u t H1 locs1 ht hvm hw hB hz1 hk1 hS1 => ?_)
  obtain ⟨hP1, hK1, hD1⟩ := hB
  rw [ht] at hP1
  obtain ⟨rfl, rfl⟩ := hw
  exact k h H1 locs1 ls hP1 (wl_D hD (fun o ho => by obtain ⟨k0, hk0⟩ := wl_at (ad := ad) (ent := ent) σ ho; exact hD.2 k0 _ hk0)) hS1 hl
theorem j_mmax (C : CX E cc own nL rm) {idx : Nat} {x y : Int32} {b : Option ρ} (hlink : Cond.methodLink own idx Lib.Math.max.name ∈ lw_g) (hstat : Cond.static Lib.Math.max.name ∈ lw_g) (hini : Cond.initialized "java/lang/Math" ∈ lw_g) (hcode : Cond.code Lib.Math.max.name Lib.Math.max.code 2 (some .int) ∈ lw_g) (hfr : 1 ≤ rm.frames) (hlo : (st.map fun v => v.category).sum + 13 ≤ rm.locals) (hkk : kc ≤ rm.cells ∧ ks ≤ rm.slots) (hd : decode cc pc = .ok (.invokestatic idx, 3)) (k : J E nL kc ks r0 b σ (pc + 3) lv (.int (if x < y then y else x) :: st)) : J E nL kc ks r0 b σ pc lv (.int y :: .int x :: st) := by
  obtain ⟨p, l, e, R, s, m, args, below, meth, c, Q, A, D, tys, ids, ad, ent⟩ := E
  obtain ⟨hx, hb, hml, hown, hts, hK, hN, hR, hA, hlk, hAX⟩ := C
  intro h H locs ls hP hD hS hl
  subst hR
  exact va_mmax hx hb (hml.trans hl.1.symm) hown (hts _ hlink) (hts _ hstat) (hts _ hini) (hts _ hcode) hfr hlo hkk.1 hkk.2 hd (k h H locs ls hP hD hS hl)
theorem j_mmin (C : CX E cc own nL rm) {idx : Nat} {x y : Int32} {b : Option ρ} (hlink : Cond.methodLink own idx Lib.Math.min.name ∈ lw_g) (hstat : Cond.static Lib.Math.min.name ∈ lw_g) (hini : Cond.initialized "java/lang/Math" ∈ lw_g) (hcode : Cond.code Lib.Math.min.name Lib.Math.min.code 2 (some .int) ∈ lw_g) (hfr : 1 ≤ rm.frames) (hlo : (st.map fun v => v.category).sum + 13 ≤ rm.locals) (hkk : kc ≤ rm.cells ∧ ks ≤ rm.slots) (hd : decode cc pc = .ok (.invokestatic idx, 3)) (k : J E nL kc ks r0 b σ (pc + 3) lv (.int (if y < x then y else x) :: st)) : J E nL kc ks r0 b σ pc lv (.int y :: .int x :: st) := by
  obtain ⟨p, l, e, R, s, m, args, below, meth, c, Q, A, D, tys, ids, ad, ent⟩ := E
  obtain ⟨hx, hb, hml, hown, hts, hK, hN, hR, hA, hlk, hAX⟩ := C
  intro h H locs ls hP hD hS hl
  subst hR
  exact va_mmin hx hb (hml.trans hl.1.symm) hown (hts _ hlink) (hts _ hstat) (hts _ hini) (hts _ hcode) hfr hlo hkk.1 hkk.2 hd (k h H locs ls hP hD hS hl)
theorem j_mmaxl (C : CX E cc own nL rm) {idx : Nat} {x y : Int64} {b : Option ρ} (hlink : Cond.methodLink own idx Lib.MathLoose.max_long.x ∈ lw_g) (hstat : Cond.static Lib.MathLoose.max_long.x ∈ lw_g) (hini : Cond.initialized "java/lang/Math" ∈ lw_g) (hcode : Cond.code Lib.MathLoose.max_long.x Lib.MathLoose.max_long.code 4 (some .long) ∈ lw_g) (hfr : 1 ≤ rm.frames) (hlo : (st.map fun v => v.category).sum + 15 ≤ rm.locals) (hkk : kc ≤ rm.cells ∧ ks ≤ rm.slots) (hd : decode cc pc = .ok (.invokestatic idx, 3)) (k : J E nL kc ks r0 b σ (pc + 3) lv (.long (if y < x then x else y) :: st)) : J E nL kc ks r0 b σ pc lv (.long y :: .long x :: st) := by
  obtain ⟨p, l, e, R, s, m, args, below, meth, c, Q, A, D, tys, ids, ad, ent⟩ := E
  obtain ⟨hx, hb, hml, hown, hts, hK, hN, hR, hA, hlk, hAX⟩ := C
  intro h H locs ls hP hD hS hl
  subst hR
  exact va_mmax_long hx hb (hml.trans hl.1.symm) hown (hts _ hlink) (hts _ hstat) (hts _ hini) (hts _ hcode) hfr hlo hkk.1 hkk.2 hd (k h H locs ls hP hD hS hl)
theorem j_mminl (C : CX E cc own nL rm) {idx : Nat} {x y : Int64} {b : Option ρ} (hlink : Cond.methodLink own idx Lib.MathLoose.min_long.x ∈ lw_g) (hstat : Cond.static Lib.MathLoose.min_long.x ∈ lw_g) (hini : Cond.initialized "java/lang/Math" ∈ lw_g) (hcode : Cond.code Lib.MathLoose.min_long.x Lib.MathLoose.min_long.code 4 (some .long) ∈ lw_g) (hfr : 1 ≤ rm.frames) (hlo : (st.map fun v => v.category).sum + 15 ≤ rm.locals) (hkk : kc ≤ rm.cells ∧ ks ≤ rm.slots) (hd : decode cc pc = .ok (.invokestatic idx, 3)) (k : J E nL kc ks r0 b σ (pc + 3) lv (.long (if y < x then y else x) :: st)) : J E nL kc ks r0 b σ pc lv (.long y :: .long x :: st) := by
  obtain ⟨p, l, e, R, s, m, args, below, meth, c, Q, A, D, tys, ids, ad, ent⟩ := E
  obtain ⟨hx, hb, hml, hown, hts, hK, hN, hR, hA, hlk, hAX⟩ := C
  intro h H locs ls hP hD hS hl
  subst hR
  exact va_mmin_long hx hb (hml.trans hl.1.symm) hown (hts _ hlink) (hts _ hstat) (hts _ hini) (hts _ hcode) hfr hlo hkk.1 hkk.2 hd (k h H locs ls hP hD hS hl)
theorem j_mabsl (C : CX E cc own nL rm) {idx : Nat} {x : Int64} {b : Option ρ} (hlink : Cond.methodLink own idx Lib.MathLoose.abs_long.x ∈ lw_g) (hstat : Cond.static Lib.MathLoose.abs_long.x ∈ lw_g) (hini : Cond.initialized "java/lang/Math" ∈ lw_g) (hcode : Cond.code Lib.MathLoose.abs_long.x Lib.MathLoose.abs_long.code 2 (some .long) ∈ lw_g) (hfr : 1 ≤ rm.frames) (hlo : (st.map fun v => v.category).sum + 13 ≤ rm.locals) (hkk : kc ≤ rm.cells ∧ ks ≤ rm.slots) (hd : decode cc pc = .ok (.invokestatic idx, 3)) (k : J E nL kc ks r0 b σ (pc + 3) lv (.long (if 0 < x then x else -x) :: st)) : J E nL kc ks r0 b σ pc lv (.long x :: st) := by
  obtain ⟨p, l, e, R, s, m, args, below, meth, c, Q, A, D, tys, ids, ad, ent⟩ := E
  obtain ⟨hx, hb, hml, hown, hts, hK, hN, hR, hA, hlk, hAX⟩ := C
  intro h H locs ls hP hD hS hl
  subst hR
  exact va_mabs_long hx hb (hml.trans hl.1.symm) hown (hts _ hlink) (hts _ hstat) (hts _ hini) (hts _ hcode) hfr hlo hkk.1 hkk.2 hd (k h H locs ls hP hD hS hl)
end CALLS
end
section
/-! THE TWO WORLDS: the ids of their cells, what each holds -/
def xRows (n : Nat) (j : Nat) : Option Nat := if j < n then some (100 + j) else none
def xSheets (j : Nat) : Option Nat := if j < 4 then some (29 + 2 * j) else none
def isCh (n o : Nat) : Bool := decide (100 ≤ o) && decide (o < 100 + n)
def isSh (o : Nat) : Bool := decide (o = 29) || (decide (o = 31) || (decide (o = 33) || decide (o = 35)))
def isTl (o : Nat) : Bool := decide (o = 8) || decide (o = 13)
def FU : Nat := 4000
def mxI (x y : Int32) : Int32 := if x < y then y else x
def mnI (x y : Int32) : Int32 := if y < x then y else x
def mxL (x y : Int64) : Int64 := if y < x then x else y
def mnL (x y : Int64) : Int64 := if y < x then y else x
def abL (x : Int64) : Int64 := if 0 < x then x else -x
def wTys (cs : Nat → ClassId) : List (ClassId × FieldType) := [(cs 0, .int), (cs 1, .long), (cs 2, .boolean), (cs 3, .object "EngineCell$Channel"), (cs 4, .object "EngineCell$Sheet")]
def xTab (ad : Nat → Nat) (cs : Nat → ClassId) (n : Nat) (f : Nat → Int32) (g : Nat → Int64) : List va_E := [.inr (11, [.ref (ad 1), .ref (ad 4), .ref (ad 6), .ref (ad 18), .ref (ad 20), .ref (ad 22), .ref (ad 26), .ref (ad 27), .ref (ad 28), .int (f 9)]), .inr (3, [.ref (ad 2), .ref (ad 3), .int (f 2), .int (f 3)]), .inl (cs 0, 25, .inl f), .inl (cs 0, 21007, .inl f), .inr (6, [.ref (ad 5), .int (f 1)]), .inl (cs 0, 120, .inl f), .inr (2, [.ref (ad 1), .ref (ad 7), .ref (ad 8), .ref (ad 13), .int (f 4)]), .inl (cs 3, 8, .inr (.inr (.inr (.inr fun j => (xRows n j).map ad)))), .inr (10, [.ref (ad 9), .ref (ad 10), .ref (ad 11), .ref (ad 12), .int (f 4)]), .inl (cs 0, 20, .inl f), .inl (cs 0, 20, .inl f), .inl (cs 0, 20, .inl f), .inl (cs 0, 20, .inl f), .inr (10, [.ref (ad 14), .ref (ad 15), .ref (ad 16), .ref (ad 17), .int (f 4)]), .inl (cs 0, 20, .inl f), .inl (cs 0, 20, .inl f), .inl (cs 0, 20, .inl f), .inl (cs 0, 20, .inl f), .inr (5, [.ref (ad 19), .int (f 1)]), .inl (cs 0, 20, .inl f), .inr (8, [.ref (ad 1), .ref (ad 4), .ref (ad 6), .ref (ad 18), .ref (ad 21), .int (f 5), .int (f 6), .int (f 7), .int (f 8), .int (f 9), .int (f 10), .int (f 11), .int (f 12), .int (f 13)]), .inl (cs 0, 30, .inl f), .inr (7, [.ref (ad 1), .ref (ad 6), .ref (ad 18), .ref (ad 23), .ref (ad 24), .ref (ad 25), .int (f 6)]), .inl (cs 1, 8, .inr (.inl g)), .inl (cs 1, 160, .inr (.inl g)), .inl (cs 0, 160, .inl f), .inr (4, [.ref (ad 1), .ref (ad 6), .long (g 2), .long (g 3), .long (g 4), .long (g 5), .long (g 6), .long (g 7), .long (g 8)]), .inr (0, [.int (f 0)]), .inl (cs 4, 4, .inr (.inr (.inr (.inr fun j => (xSheets j).map ad)))), .inr (9, [.ref (ad 30), .int (f 1), .int (f 2), .int (f 3)]), .inl (cs 0, 40, .inl f), .inr (9, [.ref (ad 32), .int (f 1), .int (f 2), .int (f 3)]), .inl (cs 0, 40, .inl f), .inr (9, [.ref (ad 34), .int (f 1), .int (f 2), .int (f 3)]), .inl (cs 0, 40, .inl f), .inr (9, [.ref (ad 36), .int (f 1), .int (f 2), .int (f 3)]), .inl (cs 0, 40, .inl f)]
def xEnt (ad : Nat → Nat) (cs : Nat → ClassId) (n : Nat) : EntT := fun o f g => (xTab ad cs n f g).getD o (.inr (1, [.int (f 0), .int (f 1), .int (f 2), .int (f 3), .int (f 4), .int (f 5), .int (f 6), .int (f 7)]))
def xIds (n : Nat) : List Nat := List.range 37 ++ (List.range n).map (fun k => 100 + k)
def mTab (ad : Nat → Nat) (cs : Nat → ClassId) (f : Nat → Int32) (g : Nat → Int64) : List va_E := [.inr (12, [.int (f 0), .int (f 1), .ref (ad 1), .int (f 3), .int (f 4), .int (f 5), .int (f 6), .int (f 7), .int (f 8), .int (f 9), .int (f 10), .int (f 11), .ref (ad 2), .int (f 13), .ref (ad 3), .ref (ad 4), .ref (ad 5), .ref (ad 6), .ref (ad 7), .ref (ad 8), .ref (ad 9), .ref (ad 10), .int (f 22), .ref (ad 11), .int (f 24), .int (f 25), .int (f 26), .ref (ad 12), .ref (ad 13), .ref (ad 14), .ref (ad 15), .ref (ad 16), .ref (ad 17), .ref (ad 18), .int (f 34), .ref (ad 19), .ref (ad 20), .ref (ad 21), .int (f 38), .ref (ad 22), .ref (ad 23), .ref (ad 24), .ref (ad 25), .ref (ad 26), .int (f 44), .ref (ad 27), .ref (ad 28), .long (g 47), .long (g 48), .long (g 49), .long (g 50), .long (g 51)]), .inl (cs 0, 25, .inl f), .inl (cs 0, 21007, .inl f), .inl (cs 0, 30, .inl f), .inl (cs 0, 30, .inl f), .inl (cs 0, 30, .inl f), .inl (cs 0, 30, .inl f), .inl (cs 0, 30, .inl f), .inl (cs 0, 4, .inl f), .inl (cs 0, 4, .inl f), .inl (cs 0, 160, .inl f), .inl (cs 0, 20, .inl f), .inl (cs 0, 8, .inl f), .inl (cs 0, 8, .inl f), .inl (cs 0, 8, .inl f), .inl (cs 0, 8, .inl f), .inl (cs 0, 8, .inl f), .inl (cs 2, 8, .inl f), .inl (cs 0, 8, .inl f), .inl (cs 0, 20, .inl f), .inl (cs 0, 20, .inl f), .inl (cs 0, 20, .inl f), .inl (cs 0, 20, .inl f), .inl (cs 0, 20, .inl f), .inl (cs 0, 20, .inl f), .inl (cs 0, 20, .inl f), .inl (cs 1, 8, .inr (.inl g)), .inl (cs 0, 160, .inl f), .inl (cs 1, 160, .inr (.inl g))]
def mEnt (ad : Nat → Nat) (cs : Nat → ClassId) : EntT := fun o f g => (mTab ad cs f g).getD o (.inr (0, []))
def mIds : List Nat := List.range 29
def XF (E : EnvT) (n : Nat) (cs : Nat → ClassId) : Prop := eIds E = xIds n ∧ eEnt E = xEnt (eAd E) cs n ∧ eTys E = wTys cs
def MF (E : EnvT) (cs : Nat → ClassId) : Prop := eIds E = mIds ∧ eEnt E = mEnt (eAd E) cs ∧ eTys E = wTys cs
section FAM
variable {E : EnvT} {n : Nat} {cs : Nat → ClassId} {o : Nat}
theorem xin (F : XF E n cs) (h : o < 37) : o ∈ eIds E := by rw [F.1]; exact List.mem_append_left _ (List.mem_range.mpr h)
theorem min_ (F : MF E cs) (h : o < 29) : o ∈ eIds E := by rw [F.1]; exact List.mem_range.mpr h
theorem isSh_cases (h : isSh o = true) : o = 29 ∨ o = 31 ∨ o = 33 ∨ o = 35 := by simpa [isSh] using h
theorem isTl_cases (h : isTl o = true) : o = 8 ∨ o = 13 := by simpa [isTl] using h
theorem isCh_cases (h : isCh n o = true) : 100 ≤ o ∧ o < 100 + n := by simpa [isCh] using h
theorem xin_Sh (F : XF E n cs) (h : isSh o = true) : o ∈ eIds E := xin F (by rcases isSh_cases h with rfl | rfl | rfl | rfl <;> decide)
theorem xin_Sh1 (F : XF E n cs) (h : isSh o = true) : o + 1 ∈ eIds E := xin F (by rcases isSh_cases h with rfl | rfl | rfl | rfl <;> decide)
theorem xin_Tl (F : XF E n cs) (h : isTl o = true) : o ∈ eIds E := xin F (by rcases isTl_cases h with rfl | rfl <;> decide)
theorem xin_Tl1 (F : XF E n cs) (h : isTl o = true) : o + 1 ∈ eIds E := xin F (by rcases isTl_cases h with rfl | rfl <;> decide)
theorem xin_Tl2 (F : XF E n cs) (h : isTl o = true) : o + 2 ∈ eIds E := xin F (by rcases isTl_cases h with rfl | rfl <;> decide)
theorem xin_Tl3 (F : XF E n cs) (h : isTl o = true) : o + 3 ∈ eIds E := xin F (by rcases isTl_cases h with rfl | rfl <;> decide)
theorem xin_Tl4 (F : XF E n cs) (h : isTl o = true) : o + 4 ∈ eIds E := xin F (by rcases isTl_cases h with rfl | rfl <;> decide)
theorem xin_Ch (F : XF E n cs) (h : isCh n o = true) : o ∈ eIds E := by
  obtain ⟨h1, h2⟩ := isCh_cases h
  rw [F.1]
  exact List.mem_append_right _ (List.mem_map.mpr ⟨o - 100, List.mem_range.mpr (by omega), by omega⟩)
theorem xe_0 (F : XF E n cs) (f : Nat → Int32) (g : Nat → Int64) : eEnt E 0 f g = .inr (11, [.ref (eAd E 1), .ref (eAd E 4), .ref (eAd E 6), .ref (eAd E 18), .ref (eAd E 20), .ref (eAd E 22), .ref (eAd E 26), .ref (eAd E 27), .ref (eAd E 28), .int (f 9)]) := by rw [F.2.1]; rfl
theorem xe_1 (F : XF E n cs) (f : Nat → Int32) (g : Nat → Int64) : eEnt E 1 f g = .inr (3, [.ref (eAd E 2), .ref (eAd E 3), .int (f 2), .int (f 3)]) := by rw [F.2.1]; rfl
theorem xe_2 (F : XF E n cs) (f : Nat → Int32) (g : Nat → Int64) : eEnt E 2 f g = .inl (cs 0, 25, .inl f) := by rw [F.2.1]; rfl
theorem xe_3 (F : XF E n cs) (f : Nat → Int32) (g : Nat → Int64) : eEnt E 3 f g = .inl (cs 0, 21007, .inl f) := by rw [F.2.1]; rfl
theorem xe_4 (F : XF E n cs) (f : Nat → Int32) (g : Nat → Int64) : eEnt E 4 f g = .inr (6, [.ref (eAd E 5), .int (f 1)]) := by rw [F.2.1]; rfl
theorem xe_5 (F : XF E n cs) (f : Nat → Int32) (g : Nat → Int64) : eEnt E 5 f g = .inl (cs 0, 120, .inl f) := by rw [F.2.1]; rfl
theorem xe_6 (F : XF E n cs) (f : Nat → Int32) (g : Nat → Int64) : eEnt E 6 f g = .inr (2, [.ref (eAd E 1), .ref (eAd E 7), .ref (eAd E 8), .ref (eAd E 13), .int (f 4)]) := by rw [F.2.1]; rfl
theorem xe_7 (F : XF E n cs) (f : Nat → Int32) (g : Nat → Int64) : eEnt E 7 f g = .inl (cs 3, 8, .inr (.inr (.inr (.inr fun j => (xRows n j).map (eAd E))))) := by rw [F.2.1]; rfl
theorem xe_8 (F : XF E n cs) (f : Nat → Int32) (g : Nat → Int64) : eEnt E 8 f g = .inr (10, [.ref (eAd E 9), .ref (eAd E 10), .ref (eAd E 11), .ref (eAd E 12), .int (f 4)]) := by rw [F.2.1]; rfl
theorem xe_9 (F : XF E n cs) (f : Nat → Int32) (g : Nat → Int64) : eEnt E 9 f g = .inl (cs 0, 20, .inl f) := by rw [F.2.1]; rfl
theorem xe_10 (F : XF E n cs) (f : Nat → Int32) (g : Nat → Int64) : eEnt E 10 f g = .inl (cs 0, 20, .inl f) := by rw [F.2.1]; rfl
theorem xe_11 (F : XF E n cs) (f : Nat → Int32) (g : Nat → Int64) : eEnt E 11 f g = .inl (cs 0, 20, .inl f) := by rw [F.2.1]; rfl
theorem xe_12 (F : XF E n cs) (f : Nat → Int32) (g : Nat → Int64) : eEnt E 12 f g = .inl (cs 0, 20, .inl f) := by rw [F.2.1]; rfl
theorem xe_13 (F : XF E n cs) (f : Nat → Int32) (g : Nat → Int64) : eEnt E 13 f g = .inr (10, [.ref (eAd E 14), .ref (eAd E 15), .ref (eAd E 16), .ref (eAd E 17), .int (f 4)]) := by rw [F.2.1]; rfl
theorem xe_14 (F : XF E n cs) (f : Nat → Int32) (g : Nat → Int64) : eEnt E 14 f g = .inl (cs 0, 20, .inl f) := by rw [F.2.1]; rfl
theorem xe_15 (F : XF E n cs) (f : Nat → Int32) (g : Nat → Int64) : eEnt E 15 f g = .inl (cs 0, 20, .inl f) := by rw [F.2.1]; rfl
theorem xe_16 (F : XF E n cs) (f : Nat → Int32) (g : Nat → Int64) : eEnt E 16 f g = .inl (cs 0, 20, .inl f) := by rw [F.2.1]; rfl
theorem xe_17 (F : XF E n cs) (f : Nat → Int32) (g : Nat → Int64) : eEnt E 17 f g = .inl (cs 0, 20, .inl f) := by rw [F.2.1]; rfl
theorem xe_18 (F : XF E n cs) (f : Nat → Int32) (g : Nat → Int64) : eEnt E 18 f g = .inr (5, [.ref (eAd E 19), .int (f 1)]) := by rw [F.2.1]; rfl
theorem xe_19 (F : XF E n cs) (f : Nat → Int32) (g : Nat → Int64) : eEnt E 19 f g = .inl (cs 0, 20, .inl f) := by rw [F.2.1]; rfl
theorem xe_20 (F : XF E n cs) (f : Nat → Int32) (g : Nat → Int64) : eEnt E 20 f g = .inr (8, [.ref (eAd E 1), .ref (eAd E 4), .ref (eAd E 6), .ref (eAd E 18), .ref (eAd E 21), .int (f 5), .int (f 6), .int (f 7), .int (f 8), .int (f 9), .int (f 10), .int (f 11), .int (f 12), .int (f 13)]) := by rw [F.2.1]; rfl
theorem xe_21 (F : XF E n cs) (f : Nat → Int32) (g : Nat → Int64) : eEnt E 21 f g = .inl (cs 0, 30, .inl f) := by rw [F.2.1]; rfl
theorem xe_22 (F : XF E n cs) (f : Nat → Int32) (g : Nat → Int64) : eEnt E 22 f g = .inr (7, [.ref (eAd E 1), .ref (eAd E 6), .ref (eAd E 18), .ref (eAd E 23), .ref (eAd E 24), .ref (eAd E 25), .int (f 6)]) := by rw [F.2.1]; rfl
theorem xe_23 (F : XF E n cs) (f : Nat → Int32) (g : Nat → Int64) : eEnt E 23 f g = .inl (cs 1, 8, .inr (.inl g)) := by rw [F.2.1]; rfl
theorem xe_24 (F : XF E n cs) (f : Nat → Int32) (g : Nat → Int64) : eEnt E 24 f g = .inl (cs 1, 160, .inr (.inl g)) := by rw [F.2.1]; rfl
theorem xe_25 (F : XF E n cs) (f : Nat → Int32) (g : Nat → Int64) : eEnt E 25 f g = .inl (cs 0, 160, .inl f) := by rw [F.2.1]; rfl
theorem xe_26 (F : XF E n cs) (f : Nat → Int32) (g : Nat → Int64) : eEnt E 26 f g = .inr (4, [.ref (eAd E 1), .ref (eAd E 6), .long (g 2), .long (g 3), .long (g 4), .long (g 5), .long (g 6), .long (g 7), .long (g 8)]) := by rw [F.2.1]; rfl
theorem xe_27 (F : XF E n cs) (f : Nat → Int32) (g : Nat → Int64) : eEnt E 27 f g = .inr (0, [.int (f 0)]) := by rw [F.2.1]; rfl
theorem xe_28 (F : XF E n cs) (f : Nat → Int32) (g : Nat → Int64) : eEnt E 28 f g = .inl (cs 4, 4, .inr (.inr (.inr (.inr fun j => (xSheets j).map (eAd E))))) := by rw [F.2.1]; rfl
theorem xe_29 (F : XF E n cs) (f : Nat → Int32) (g : Nat → Int64) : eEnt E 29 f g = .inr (9, [.ref (eAd E 30), .int (f 1), .int (f 2), .int (f 3)]) := by rw [F.2.1]; rfl
theorem xe_30 (F : XF E n cs) (f : Nat → Int32) (g : Nat → Int64) : eEnt E 30 f g = .inl (cs 0, 40, .inl f) := by rw [F.2.1]; rfl
theorem xe_31 (F : XF E n cs) (f : Nat → Int32) (g : Nat → Int64) : eEnt E 31 f g = .inr (9, [.ref (eAd E 32), .int (f 1), .int (f 2), .int (f 3)]) := by rw [F.2.1]; rfl
theorem xe_32 (F : XF E n cs) (f : Nat → Int32) (g : Nat → Int64) : eEnt E 32 f g = .inl (cs 0, 40, .inl f) := by rw [F.2.1]; rfl
theorem xe_33 (F : XF E n cs) (f : Nat → Int32) (g : Nat → Int64) : eEnt E 33 f g = .inr (9, [.ref (eAd E 34), .int (f 1), .int (f 2), .int (f 3)]) := by rw [F.2.1]; rfl
theorem xe_34 (F : XF E n cs) (f : Nat → Int32) (g : Nat → Int64) : eEnt E 34 f g = .inl (cs 0, 40, .inl f) := by rw [F.2.1]; rfl
theorem xe_35 (F : XF E n cs) (f : Nat → Int32) (g : Nat → Int64) : eEnt E 35 f g = .inr (9, [.ref (eAd E 36), .int (f 1), .int (f 2), .int (f 3)]) := by rw [F.2.1]; rfl
theorem xe_36 (F : XF E n cs) (f : Nat → Int32) (g : Nat → Int64) : eEnt E 36 f g = .inl (cs 0, 40, .inl f) := by rw [F.2.1]; rfl
theorem me_0 (F : MF E cs) (f : Nat → Int32) (g : Nat → Int64) : eEnt E 0 f g = .inr (12, [.int (f 0), .int (f 1), .ref (eAd E 1), .int (f 3), .int (f 4), .int (f 5), .int (f 6), .int (f 7), .int (f 8), .int (f 9), .int (f 10), .int (f 11), .ref (eAd E 2), .int (f 13), .ref (eAd E 3), .ref (eAd E 4), .ref (eAd E 5), .ref (eAd E 6), .ref (eAd E 7), .ref (eAd E 8), .ref (eAd E 9), .ref (eAd E 10), .int (f 22), .ref (eAd E 11), .int (f 24), .int (f 25), .int (f 26), .ref (eAd E 12), .ref (eAd E 13), .ref (eAd E 14), .ref (eAd E 15), .ref (eAd E 16), .ref (eAd E 17), .ref (eAd E 18), .int (f 34), .ref (eAd E 19), .ref (eAd E 20), .ref (eAd E 21), .int (f 38), .ref (eAd E 22), .ref (eAd E 23), .ref (eAd E 24), .ref (eAd E 25), .ref (eAd E 26), .int (f 44), .ref (eAd E 27), .ref (eAd E 28), .long (g 47), .long (g 48), .long (g 49), .long (g 50), .long (g 51)]) := by rw [F.2.1]; rfl
theorem me_1 (F : MF E cs) (f : Nat → Int32) (g : Nat → Int64) : eEnt E 1 f g = .inl (cs 0, 25, .inl f) := by rw [F.2.1]; rfl
theorem me_2 (F : MF E cs) (f : Nat → Int32) (g : Nat → Int64) : eEnt E 2 f g = .inl (cs 0, 21007, .inl f) := by rw [F.2.1]; rfl
theorem me_3 (F : MF E cs) (f : Nat → Int32) (g : Nat → Int64) : eEnt E 3 f g = .inl (cs 0, 30, .inl f) := by rw [F.2.1]; rfl
theorem me_4 (F : MF E cs) (f : Nat → Int32) (g : Nat → Int64) : eEnt E 4 f g = .inl (cs 0, 30, .inl f) := by rw [F.2.1]; rfl
theorem me_5 (F : MF E cs) (f : Nat → Int32) (g : Nat → Int64) : eEnt E 5 f g = .inl (cs 0, 30, .inl f) := by rw [F.2.1]; rfl
theorem me_6 (F : MF E cs) (f : Nat → Int32) (g : Nat → Int64) : eEnt E 6 f g = .inl (cs 0, 30, .inl f) := by rw [F.2.1]; rfl
theorem me_7 (F : MF E cs) (f : Nat → Int32) (g : Nat → Int64) : eEnt E 7 f g = .inl (cs 0, 30, .inl f) := by rw [F.2.1]; rfl
theorem me_8 (F : MF E cs) (f : Nat → Int32) (g : Nat → Int64) : eEnt E 8 f g = .inl (cs 0, 4, .inl f) := by rw [F.2.1]; rfl
theorem me_9 (F : MF E cs) (f : Nat → Int32) (g : Nat → Int64) : eEnt E 9 f g = .inl (cs 0, 4, .inl f) := by rw [F.2.1]; rfl
theorem me_10 (F : MF E cs) (f : Nat → Int32) (g : Nat → Int64) : eEnt E 10 f g = .inl (cs 0, 160, .inl f) := by rw [F.2.1]; rfl
theorem me_11 (F : MF E cs) (f : Nat → Int32) (g : Nat → Int64) : eEnt E 11 f g = .inl (cs 0, 20, .inl f) := by rw [F.2.1]; rfl
theorem me_12 (F : MF E cs) (f : Nat → Int32) (g : Nat → Int64) : eEnt E 12 f g = .inl (cs 0, 8, .inl f) := by rw [F.2.1]; rfl
theorem me_13 (F : MF E cs) (f : Nat → Int32) (g : Nat → Int64) : eEnt E 13 f g = .inl (cs 0, 8, .inl f) := by rw [F.2.1]; rfl
theorem me_14 (F : MF E cs) (f : Nat → Int32) (g : Nat → Int64) : eEnt E 14 f g = .inl (cs 0, 8, .inl f) := by rw [F.2.1]; rfl
theorem me_15 (F : MF E cs) (f : Nat → Int32) (g : Nat → Int64) : eEnt E 15 f g = .inl (cs 0, 8, .inl f) := by rw [F.2.1]; rfl
theorem me_16 (F : MF E cs) (f : Nat → Int32) (g : Nat → Int64) : eEnt E 16 f g = .inl (cs 0, 8, .inl f) := by rw [F.2.1]; rfl
theorem me_17 (F : MF E cs) (f : Nat → Int32) (g : Nat → Int64) : eEnt E 17 f g = .inl (cs 2, 8, .inl f) := by rw [F.2.1]; rfl
theorem me_18 (F : MF E cs) (f : Nat → Int32) (g : Nat → Int64) : eEnt E 18 f g = .inl (cs 0, 8, .inl f) := by rw [F.2.1]; rfl
theorem me_19 (F : MF E cs) (f : Nat → Int32) (g : Nat → Int64) : eEnt E 19 f g = .inl (cs 0, 20, .inl f) := by rw [F.2.1]; rfl
theorem me_20 (F : MF E cs) (f : Nat → Int32) (g : Nat → Int64) : eEnt E 20 f g = .inl (cs 0, 20, .inl f) := by rw [F.2.1]; rfl
theorem me_21 (F : MF E cs) (f : Nat → Int32) (g : Nat → Int64) : eEnt E 21 f g = .inl (cs 0, 20, .inl f) := by rw [F.2.1]; rfl
theorem me_22 (F : MF E cs) (f : Nat → Int32) (g : Nat → Int64) : eEnt E 22 f g = .inl (cs 0, 20, .inl f) := by rw [F.2.1]; rfl
theorem me_23 (F : MF E cs) (f : Nat → Int32) (g : Nat → Int64) : eEnt E 23 f g = .inl (cs 0, 20, .inl f) := by rw [F.2.1]; rfl
theorem me_24 (F : MF E cs) (f : Nat → Int32) (g : Nat → Int64) : eEnt E 24 f g = .inl (cs 0, 20, .inl f) := by rw [F.2.1]; rfl
theorem me_25 (F : MF E cs) (f : Nat → Int32) (g : Nat → Int64) : eEnt E 25 f g = .inl (cs 0, 20, .inl f) := by rw [F.2.1]; rfl
theorem me_26 (F : MF E cs) (f : Nat → Int32) (g : Nat → Int64) : eEnt E 26 f g = .inl (cs 1, 8, .inr (.inl g)) := by rw [F.2.1]; rfl
theorem me_27 (F : MF E cs) (f : Nat → Int32) (g : Nat → Int64) : eEnt E 27 f g = .inl (cs 0, 160, .inl f) := by rw [F.2.1]; rfl
theorem me_28 (F : MF E cs) (f : Nat → Int32) (g : Nat → Int64) : eEnt E 28 f g = .inl (cs 1, 160, .inr (.inl g)) := by rw [F.2.1]; rfl
theorem xe_Sh (F : XF E n cs) (h : isSh o = true) (f : Nat → Int32) (g : Nat → Int64) : eEnt E o f g = .inr (9, [.ref (eAd E (o + 1)), .int (f 1), .int (f 2), .int (f 3)]) := by rw [F.2.1]; rcases isSh_cases h with rfl | rfl | rfl | rfl <;> rfl
theorem xe_Sh1 (F : XF E n cs) (h : isSh o = true) (f : Nat → Int32) (g : Nat → Int64) : eEnt E (o + 1) f g = .inl (cs 0, 40, .inl f) := by rw [F.2.1]; rcases isSh_cases h with rfl | rfl | rfl | rfl <;> rfl
theorem xe_Tl (F : XF E n cs) (h : isTl o = true) (f : Nat → Int32) (g : Nat → Int64) : eEnt E o f g = .inr (10, [.ref (eAd E (o + 1)), .ref (eAd E (o + 2)), .ref (eAd E (o + 3)), .ref (eAd E (o + 4)), .int (f 4)]) := by rw [F.2.1]; rcases isTl_cases h with rfl | rfl <;> rfl
theorem xe_Tl1 (F : XF E n cs) (h : isTl o = true) (f : Nat → Int32) (g : Nat → Int64) : eEnt E (o + 1) f g = .inl (cs 0, 20, .inl f) := by rw [F.2.1]; rcases isTl_cases h with rfl | rfl <;> rfl
theorem xe_Tl2 (F : XF E n cs) (h : isTl o = true) (f : Nat → Int32) (g : Nat → Int64) : eEnt E (o + 2) f g = .inl (cs 0, 20, .inl f) := by rw [F.2.1]; rcases isTl_cases h with rfl | rfl <;> rfl
theorem xe_Tl3 (F : XF E n cs) (h : isTl o = true) (f : Nat → Int32) (g : Nat → Int64) : eEnt E (o + 3) f g = .inl (cs 0, 20, .inl f) := by rw [F.2.1]; rcases isTl_cases h with rfl | rfl <;> rfl
theorem xe_Tl4 (F : XF E n cs) (h : isTl o = true) (f : Nat → Int32) (g : Nat → Int64) : eEnt E (o + 4) f g = .inl (cs 0, 20, .inl f) := by rw [F.2.1]; rcases isTl_cases h with rfl | rfl <;> rfl
theorem xe_Ch (F : XF E n cs) (h : isCh n o = true) (f : Nat → Int32) (g : Nat → Int64) : eEnt E o f g = .inr (1, [.int (f 0), .int (f 1), .int (f 2), .int (f 3), .int (f 4), .int (f 5), .int (f 6), .int (f 7)]) := by
  rw [F.2.1]
  show (xTab (eAd E) cs n f g).getD o _ = _
  rw [List.getD_eq_getElem?_getD, List.getElem?_eq_none (Nat.le_trans (show (xTab (eAd E) cs n f g).length ≤ 100 from Nat.le_of_ble_eq_true rfl) (isCh_cases h).1)]
  rfl
/-- a walk gives the contract, in the surroundings of a caller -/
theorem ct_X (F : XF E n cs) {y : MethodName} {b : ByteArray} {nL : Nat} {rt : Option FieldType} {rm : Room} {As : List Value} {σ : Mem} {rq : RQT} (hy : plainName y.cls = true) (hn : (lg_sl As).length ≤ nL) (hm : ∀ E' : EnvT, eAd E' = eAd E → XF E' n cs → CX E' b y.cls nL rm → QE E' 0 0 rt rq → G E' nL 0 0 σ 0 (lv_args 0 As) []) : CT E y b nL rt rm As σ rq := by
  obtain ⟨p, l, e, R, s, m, args, below, meth, c, Q, A, D, tys, ids, ad, ent⟩ := E
  intro sz
  exact ct_of hy hn (fun E' e1 e2 e3 e4 e5 C Q => hm E' e4 ⟨e3.trans F.1, e5.trans (F.2.1.trans (by rw [e4])), e2.trans F.2.2⟩ C Q) sz
theorem ct_M (F : MF E cs) {y : MethodName} {b : ByteArray} {nL : Nat} {rt : Option FieldType} {rm : Room} {As : List Value} {σ : Mem} {rq : RQT} (hy : plainName y.cls = true) (hn : (lg_sl As).length ≤ nL) (hm : ∀ E' : EnvT, eAd E' = eAd E → MF E' cs → CX E' b y.cls nL rm → QE E' 0 0 rt rq → G E' nL 0 0 σ 0 (lv_args 0 As) []) : CT E y b nL rt rm As σ rq := by
  obtain ⟨p, l, e, R, s, m, args, below, meth, c, Q, A, D, tys, ids, ad, ent⟩ := E
  intro sz
  exact ct_of hy hn (fun E' e1 e2 e3 e4 e5 C Q => hm E' e4 ⟨e3.trans F.1, e5.trans (F.2.1.trans (by rw [e4])), e2.trans F.2.2⟩ C Q) sz
end FAM
end
