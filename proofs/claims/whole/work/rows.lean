section
-- ===== PART A: goes FIRST, ahead of the names: the tables' words, and 'selects' of the private methods out of them =====
/-- a private method of a class that the tables say can be made, by its rows of tables_1 -/
def lw_okq (q : MethodName × Nat) : Prop := (q.1.cls ≠ "java/lang/invoke/MethodHandle" ∧ q.1.cls ≠ "java/lang/invoke/VarHandle") ∧ Cond.instantiable q.1.cls q.2 ∈ tables_1 ∧ Cond.privateMethod q.1 ∈ tables_1 ∧ Cond.instanceMethod q.1 ∈ tables_1
theorem lw_p0 : lw_okq (⟨"RedoMachine", "takeRow", "()[I"⟩, 6) := ⟨⟨by decide +kernel, by decide +kernel⟩, List.mem_of_getElem? (i := 33) (by decide +kernel), List.mem_of_getElem? (i := 243) (by decide +kernel), List.mem_of_getElem? (i := 244) (by decide +kernel)⟩
theorem lw_p1 : lw_okq (⟨"java/util/ArrayList", "add", "(Ljava/lang/Object;[Ljava/lang/Object;I)V"⟩, 3) := ⟨⟨by decide +kernel, by decide +kernel⟩, List.mem_of_getElem? (i := 41) (by decide +kernel), List.mem_of_getElem? (i := 313) (by decide +kernel), List.mem_of_getElem? (i := 314) (by decide +kernel)⟩
theorem lw_p2 : lw_okq (⟨"java/util/ArrayList", "grow", "()[Ljava/lang/Object;"⟩, 3) := ⟨⟨by decide +kernel, by decide +kernel⟩, List.mem_of_getElem? (i := 41) (by decide +kernel), List.mem_of_getElem? (i := 317) (by decide +kernel), List.mem_of_getElem? (i := 318) (by decide +kernel)⟩
theorem lw_p3 : lw_okq (⟨"java/util/ArrayList", "grow", "(I)[Ljava/lang/Object;"⟩, 3) := ⟨⟨by decide +kernel, by decide +kernel⟩, List.mem_of_getElem? (i := 41) (by decide +kernel), List.mem_of_getElem? (i := 321) (by decide +kernel), List.mem_of_getElem? (i := 322) (by decide +kernel)⟩
theorem lw_p4 : lw_okq (⟨"RedoMachine", "procedureAt", "(I)LRedoMachine$Procedure;"⟩, 6) := ⟨⟨by decide +kernel, by decide +kernel⟩, List.mem_of_getElem? (i := 33) (by decide +kernel), List.mem_of_getElem? (i := 408) (by decide +kernel), List.mem_of_getElem? (i := 409) (by decide +kernel)⟩
theorem lw_p5 : lw_okq (⟨"RedoMachine$Procedure", "hasSlot", "(I)Z"⟩, 5) := ⟨⟨by decide +kernel, by decide +kernel⟩, List.mem_of_getElem? (i := 279) (by decide +kernel), List.mem_of_getElem? (i := 431) (by decide +kernel), List.mem_of_getElem? (i := 432) (by decide +kernel)⟩
theorem lw_p6 : lw_okq (⟨"RedoMachine$Procedure", "admitsCall", "(LRedoMachine$Instruction;)Z"⟩, 5) := ⟨⟨by decide +kernel, by decide +kernel⟩, List.mem_of_getElem? (i := 279) (by decide +kernel), List.mem_of_getElem? (i := 435) (by decide +kernel), List.mem_of_getElem? (i := 436) (by decide +kernel)⟩
theorem lw_p7 : lw_okq (⟨"RedoMachine$Stack", "noteSize", "()V"⟩, 8) := ⟨⟨by decide +kernel, by decide +kernel⟩, List.mem_of_getElem? (i := 74) (by decide +kernel), List.mem_of_getElem? (i := 533) (by decide +kernel), List.mem_of_getElem? (i := 534) (by decide +kernel)⟩
theorem lw_p8 : lw_okq (⟨"RedoMachine$Stack", "redoAt", "(I)LRedoMachine$Redo;"⟩, 8) := ⟨⟨by decide +kernel, by decide +kernel⟩, List.mem_of_getElem? (i := 74) (by decide +kernel), List.mem_of_getElem? (i := 546) (by decide +kernel), List.mem_of_getElem? (i := 547) (by decide +kernel)⟩
theorem lw_p9 : lw_okq (⟨"RedoMachine$Engine", "fail", "()V"⟩, 7) := ⟨⟨by decide +kernel, by decide +kernel⟩, List.mem_of_getElem? (i := 68) (by decide +kernel), List.mem_of_getElem? (i := 567) (by decide +kernel), List.mem_of_getElem? (i := 568) (by decide +kernel)⟩
theorem lw_p10 : lw_okq (⟨"RedoMachine$Stack", "keepFrames", "(I)V"⟩, 8) := ⟨⟨by decide +kernel, by decide +kernel⟩, List.mem_of_getElem? (i := 74) (by decide +kernel), List.mem_of_getElem? (i := 575) (by decide +kernel), List.mem_of_getElem? (i := 576) (by decide +kernel)⟩
theorem lw_p11 : lw_okq (⟨"RedoMachine$Engine", "step", "(LRedoMachine$Frame;)I"⟩, 7) := ⟨⟨by decide +kernel, by decide +kernel⟩, List.mem_of_getElem? (i := 68) (by decide +kernel), List.mem_of_getElem? (i := 594) (by decide +kernel), List.mem_of_getElem? (i := 595) (by decide +kernel)⟩
theorem lw_p12 : lw_okq (⟨"RedoMachine$Engine", "become", "(LRedoMachine$Frame;IJ)I"⟩, 7) := ⟨⟨by decide +kernel, by decide +kernel⟩, List.mem_of_getElem? (i := 68) (by decide +kernel), List.mem_of_getElem? (i := 604) (by decide +kernel), List.mem_of_getElem? (i := 605) (by decide +kernel)⟩
theorem lw_p13 : lw_okq (⟨"RedoMachine$Engine", "make", "(LRedoMachine$Frame;LRedoMachine$Instruction;)I"⟩, 7) := ⟨⟨by decide +kernel, by decide +kernel⟩, List.mem_of_getElem? (i := 68) (by decide +kernel), List.mem_of_getElem? (i := 612) (by decide +kernel), List.mem_of_getElem? (i := 613) (by decide +kernel)⟩
theorem lw_p14 : lw_okq (⟨"RedoMachine$Engine", "take", "(LRedoMachine$Frame;LRedoMachine$Instruction;)I"⟩, 7) := ⟨⟨by decide +kernel, by decide +kernel⟩, List.mem_of_getElem? (i := 68) (by decide +kernel), List.mem_of_getElem? (i := 635) (by decide +kernel), List.mem_of_getElem? (i := 636) (by decide +kernel)⟩
theorem lw_p15 : lw_okq (⟨"RedoMachine$Heap", "awaitFields", "(JJ)V"⟩, 4) := ⟨⟨by decide +kernel, by decide +kernel⟩, List.mem_of_getElem? (i := 124) (by decide +kernel), List.mem_of_getElem? (i := 671) (by decide +kernel), List.mem_of_getElem? (i := 672) (by decide +kernel)⟩
def lw_privs_1 : List (MethodName × Nat) := [(⟨"RedoMachine", "takeRow", "()[I"⟩, 6), (⟨"java/util/ArrayList", "add", "(Ljava/lang/Object;[Ljava/lang/Object;I)V"⟩, 3), (⟨"java/util/ArrayList", "grow", "()[Ljava/lang/Object;"⟩, 3), (⟨"java/util/ArrayList", "grow", "(I)[Ljava/lang/Object;"⟩, 3), (⟨"RedoMachine", "procedureAt", "(I)LRedoMachine$Procedure;"⟩, 6), (⟨"RedoMachine$Procedure", "hasSlot", "(I)Z"⟩, 5), (⟨"RedoMachine$Procedure", "admitsCall", "(LRedoMachine$Instruction;)Z"⟩, 5), (⟨"RedoMachine$Stack", "noteSize", "()V"⟩, 8), (⟨"RedoMachine$Stack", "redoAt", "(I)LRedoMachine$Redo;"⟩, 8), (⟨"RedoMachine$Engine", "fail", "()V"⟩, 7), (⟨"RedoMachine$Stack", "keepFrames", "(I)V"⟩, 8), (⟨"RedoMachine$Engine", "step", "(LRedoMachine$Frame;)I"⟩, 7), (⟨"RedoMachine$Engine", "become", "(LRedoMachine$Frame;IJ)I"⟩, 7), (⟨"RedoMachine$Engine", "make", "(LRedoMachine$Frame;LRedoMachine$Instruction;)I"⟩, 7), (⟨"RedoMachine$Engine", "take", "(LRedoMachine$Frame;LRedoMachine$Instruction;)I"⟩, 7), (⟨"RedoMachine$Heap", "awaitFields", "(JJ)V"⟩, 4)]
theorem lw_r1 : ∀ q ∈ lw_privs_1, lw_okq q := List.forall_mem_cons.mpr ⟨lw_p0, List.forall_mem_cons.mpr ⟨lw_p1, List.forall_mem_cons.mpr ⟨lw_p2, List.forall_mem_cons.mpr ⟨lw_p3, List.forall_mem_cons.mpr ⟨lw_p4, List.forall_mem_cons.mpr ⟨lw_p5, List.forall_mem_cons.mpr ⟨lw_p6, List.forall_mem_cons.mpr ⟨lw_p7, List.forall_mem_cons.mpr ⟨lw_p8, List.forall_mem_cons.mpr ⟨lw_p9, List.forall_mem_cons.mpr ⟨lw_p10, List.forall_mem_cons.mpr ⟨lw_p11, List.forall_mem_cons.mpr ⟨lw_p12, List.forall_mem_cons.mpr ⟨lw_p13, List.forall_mem_cons.mpr ⟨lw_p14, List.forall_mem_cons.mpr ⟨lw_p15, fun _ h => absurd h List.not_mem_nil⟩⟩⟩⟩⟩⟩⟩⟩⟩⟩⟩⟩⟩⟩⟩⟩
theorem lw_p16 : lw_okq (⟨"RedoMachine$Engine", "sum", "(LRedoMachine$Frame;LRedoMachine$Instruction;)I"⟩, 7) := ⟨⟨by decide +kernel, by decide +kernel⟩, List.mem_of_getElem? (i := 68) (by decide +kernel), List.mem_of_getElem? (i := 678) (by decide +kernel), List.mem_of_getElem? (i := 679) (by decide +kernel)⟩
theorem lw_p17 : lw_okq (⟨"RedoMachine$Engine", "compare", "(LRedoMachine$Frame;LRedoMachine$Instruction;)I"⟩, 7) := ⟨⟨by decide +kernel, by decide +kernel⟩, List.mem_of_getElem? (i := 68) (by decide +kernel), List.mem_of_getElem? (i := 686) (by decide +kernel), List.mem_of_getElem? (i := 687) (by decide +kernel)⟩
theorem lw_p18 : lw_okq (⟨"RedoMachine$Engine", "go", "(I)I"⟩, 7) := ⟨⟨by decide +kernel, by decide +kernel⟩, List.mem_of_getElem? (i := 68) (by decide +kernel), List.mem_of_getElem? (i := 693) (by decide +kernel), List.mem_of_getElem? (i := 694) (by decide +kernel)⟩
theorem lw_p19 : lw_okq (⟨"RedoMachine$Engine", "leaveRedo", "(LRedoMachine$Frame;I)I"⟩, 7) := ⟨⟨by decide +kernel, by decide +kernel⟩, List.mem_of_getElem? (i := 68) (by decide +kernel), List.mem_of_getElem? (i := 697) (by decide +kernel), List.mem_of_getElem? (i := 698) (by decide +kernel)⟩
theorem lw_p20 : lw_okq (⟨"RedoMachine$Engine", "call", "(LRedoMachine$Frame;LRedoMachine$Instruction;)I"⟩, 7) := ⟨⟨by decide +kernel, by decide +kernel⟩, List.mem_of_getElem? (i := 68) (by decide +kernel), List.mem_of_getElem? (i := 745) (by decide +kernel), List.mem_of_getElem? (i := 746) (by decide +kernel)⟩
theorem lw_p21 : lw_okq (⟨"RedoMachine$Engine", "cut", "(LRedoMachine$Frame;J)I"⟩, 7) := ⟨⟨by decide +kernel, by decide +kernel⟩, List.mem_of_getElem? (i := 68) (by decide +kernel), List.mem_of_getElem? (i := 750) (by decide +kernel), List.mem_of_getElem? (i := 751) (by decide +kernel)⟩
theorem lw_p22 : lw_okq (⟨"RedoMachine$Engine", "drop", "(J)I"⟩, 7) := ⟨⟨by decide +kernel, by decide +kernel⟩, List.mem_of_getElem? (i := 68) (by decide +kernel), List.mem_of_getElem? (i := 759) (by decide +kernel), List.mem_of_getElem? (i := 760) (by decide +kernel)⟩
theorem lw_p23 : lw_okq (⟨"RedoMachine$Engine", "exit", "(LRedoMachine$Frame;)I"⟩, 7) := ⟨⟨by decide +kernel, by decide +kernel⟩, List.mem_of_getElem? (i := 68) (by decide +kernel), List.mem_of_getElem? (i := 767) (by decide +kernel), List.mem_of_getElem? (i := 768) (by decide +kernel)⟩
theorem lw_p24 : lw_okq (⟨"RedoMachine$Engine", "settle", "(I)V"⟩, 7) := ⟨⟨by decide +kernel, by decide +kernel⟩, List.mem_of_getElem? (i := 68) (by decide +kernel), List.mem_of_getElem? (i := 775) (by decide +kernel), List.mem_of_getElem? (i := 776) (by decide +kernel)⟩
theorem lw_p25 : lw_okq (⟨"java/lang/Throwable", "fillInStackTrace", "(I)Ljava/lang/Throwable;"⟩, 6) := ⟨⟨by decide +kernel, by decide +kernel⟩, List.mem_of_getElem? (i := 891) (by decide +kernel), List.mem_of_getElem? (i := 889) (by decide +kernel), List.mem_of_getElem? (i := 890) (by decide +kernel)⟩
theorem lw_p26 : lw_okq (⟨"RedoMachine$Text", "writeHead", "(J)V"⟩, 2) := ⟨⟨by decide +kernel, by decide +kernel⟩, List.mem_of_getElem? (i := 169) (by decide +kernel), List.mem_of_getElem? (i := 973) (by decide +kernel), List.mem_of_getElem? (i := 974) (by decide +kernel)⟩
theorem lw_p27 : lw_okq (⟨"RedoMachine$Text", "writeMore", "(LRedoMachine$Heap;)V"⟩, 2) := ⟨⟨by decide +kernel, by decide +kernel⟩, List.mem_of_getElem? (i := 169) (by decide +kernel), List.mem_of_getElem? (i := 1055) (by decide +kernel), List.mem_of_getElem? (i := 1056) (by decide +kernel)⟩
theorem lw_p28 : lw_okq (⟨"RedoMachineModel", "taken", "()I"⟩, 59) := ⟨⟨by decide +kernel, by decide +kernel⟩, List.mem_of_getElem? (i := 1061) (by decide +kernel), List.mem_of_getElem? (i := 1260) (by decide +kernel), List.mem_of_getElem? (i := 1261) (by decide +kernel)⟩
theorem lw_p29 : lw_okq (⟨"RedoMachineModel", "areSlots", "(II)Z"⟩, 59) := ⟨⟨by decide +kernel, by decide +kernel⟩, List.mem_of_getElem? (i := 1061) (by decide +kernel), List.mem_of_getElem? (i := 1267) (by decide +kernel), List.mem_of_getElem? (i := 1268) (by decide +kernel)⟩
theorem lw_p30 : lw_okq (⟨"RedoMachineModel", "isRight", "(IIIIIII)Z"⟩, 59) := ⟨⟨by decide +kernel, by decide +kernel⟩, List.mem_of_getElem? (i := 1061) (by decide +kernel), List.mem_of_getElem? (i := 1275) (by decide +kernel), List.mem_of_getElem? (i := 1276) (by decide +kernel)⟩
theorem lw_p31 : lw_okq (⟨"RedoMachineModel", "isSlot", "(II)Z"⟩, 59) := ⟨⟨by decide +kernel, by decide +kernel⟩, List.mem_of_getElem? (i := 1061) (by decide +kernel), List.mem_of_getElem? (i := 1279) (by decide +kernel), List.mem_of_getElem? (i := 1280) (by decide +kernel)⟩
def lw_privs_2 : List (MethodName × Nat) := [(⟨"RedoMachine$Engine", "sum", "(LRedoMachine$Frame;LRedoMachine$Instruction;)I"⟩, 7), (⟨"RedoMachine$Engine", "compare", "(LRedoMachine$Frame;LRedoMachine$Instruction;)I"⟩, 7), (⟨"RedoMachine$Engine", "go", "(I)I"⟩, 7), (⟨"RedoMachine$Engine", "leaveRedo", "(LRedoMachine$Frame;I)I"⟩, 7), (⟨"RedoMachine$Engine", "call", "(LRedoMachine$Frame;LRedoMachine$Instruction;)I"⟩, 7), (⟨"RedoMachine$Engine", "cut", "(LRedoMachine$Frame;J)I"⟩, 7), (⟨"RedoMachine$Engine", "drop", "(J)I"⟩, 7), (⟨"RedoMachine$Engine", "exit", "(LRedoMachine$Frame;)I"⟩, 7), (⟨"RedoMachine$Engine", "settle", "(I)V"⟩, 7), (⟨"java/lang/Throwable", "fillInStackTrace", "(I)Ljava/lang/Throwable;"⟩, 6), (⟨"RedoMachine$Text", "writeHead", "(J)V"⟩, 2), (⟨"RedoMachine$Text", "writeMore", "(LRedoMachine$Heap;)V"⟩, 2), (⟨"RedoMachineModel", "taken", "()I"⟩, 59), (⟨"RedoMachineModel", "areSlots", "(II)Z"⟩, 59), (⟨"RedoMachineModel", "isRight", "(IIIIIII)Z"⟩, 59), (⟨"RedoMachineModel", "isSlot", "(II)Z"⟩, 59)]
theorem lw_r2 : ∀ q ∈ lw_privs_2, lw_okq q := List.forall_mem_cons.mpr ⟨lw_p16, List.forall_mem_cons.mpr ⟨lw_p17, List.forall_mem_cons.mpr ⟨lw_p18, List.forall_mem_cons.mpr ⟨lw_p19, List.forall_mem_cons.mpr ⟨lw_p20, List.forall_mem_cons.mpr ⟨lw_p21, List.forall_mem_cons.mpr ⟨lw_p22, List.forall_mem_cons.mpr ⟨lw_p23, List.forall_mem_cons.mpr ⟨lw_p24, List.forall_mem_cons.mpr ⟨lw_p25, List.forall_mem_cons.mpr ⟨lw_p26, List.forall_mem_cons.mpr ⟨lw_p27, List.forall_mem_cons.mpr ⟨lw_p28, List.forall_mem_cons.mpr ⟨lw_p29, List.forall_mem_cons.mpr ⟨lw_p30, List.forall_mem_cons.mpr ⟨lw_p31, fun _ h => absurd h List.not_mem_nil⟩⟩⟩⟩⟩⟩⟩⟩⟩⟩⟩⟩⟩⟩⟩⟩
theorem lw_p32 : lw_okq (⟨"RedoMachineModel", "pushFrame", "(III)V"⟩, 59) := ⟨⟨by decide +kernel, by decide +kernel⟩, List.mem_of_getElem? (i := 1061) (by decide +kernel), List.mem_of_getElem? (i := 1290) (by decide +kernel), List.mem_of_getElem? (i := 1291) (by decide +kernel)⟩
theorem lw_p33 : lw_okq (⟨"RedoMachineModel", "redos", "()I"⟩, 59) := ⟨⟨by decide +kernel, by decide +kernel⟩, List.mem_of_getElem? (i := 1061) (by decide +kernel), List.mem_of_getElem? (i := 1294) (by decide +kernel), List.mem_of_getElem? (i := 1295) (by decide +kernel)⟩
theorem lw_p34 : lw_okq (⟨"RedoMachineModel", "grow", "(I)V"⟩, 59) := ⟨⟨by decide +kernel, by decide +kernel⟩, List.mem_of_getElem? (i := 1061) (by decide +kernel), List.mem_of_getElem? (i := 1298) (by decide +kernel), List.mem_of_getElem? (i := 1299) (by decide +kernel)⟩
theorem lw_p35 : lw_okq (⟨"RedoMachineModel", "fail", "()V"⟩, 59) := ⟨⟨by decide +kernel, by decide +kernel⟩, List.mem_of_getElem? (i := 1061) (by decide +kernel), List.mem_of_getElem? (i := 1306) (by decide +kernel), List.mem_of_getElem? (i := 1307) (by decide +kernel)⟩
theorem lw_p36 : lw_okq (⟨"RedoMachineModel", "lastRedo", "()I"⟩, 59) := ⟨⟨by decide +kernel, by decide +kernel⟩, List.mem_of_getElem? (i := 1061) (by decide +kernel), List.mem_of_getElem? (i := 1310) (by decide +kernel), List.mem_of_getElem? (i := 1311) (by decide +kernel)⟩
theorem lw_p37 : lw_okq (⟨"RedoMachineModel", "dropFrom", "(I)V"⟩, 59) := ⟨⟨by decide +kernel, by decide +kernel⟩, List.mem_of_getElem? (i := 1061) (by decide +kernel), List.mem_of_getElem? (i := 1314) (by decide +kernel), List.mem_of_getElem? (i := 1315) (by decide +kernel)⟩
theorem lw_p38 : lw_okq (⟨"RedoMachineModel", "sizeOf", "(I)I"⟩, 59) := ⟨⟨by decide +kernel, by decide +kernel⟩, List.mem_of_getElem? (i := 1061) (by decide +kernel), List.mem_of_getElem? (i := 1318) (by decide +kernel), List.mem_of_getElem? (i := 1319) (by decide +kernel)⟩
theorem lw_p39 : lw_okq (⟨"RedoMachineModel", "step", "()V"⟩, 59) := ⟨⟨by decide +kernel, by decide +kernel⟩, List.mem_of_getElem? (i := 1061) (by decide +kernel), List.mem_of_getElem? (i := 1322) (by decide +kernel), List.mem_of_getElem? (i := 1323) (by decide +kernel)⟩
theorem lw_p40 : lw_okq (⟨"RedoMachineModel", "set", "(IJ)V"⟩, 59) := ⟨⟨by decide +kernel, by decide +kernel⟩, List.mem_of_getElem? (i := 1061) (by decide +kernel), List.mem_of_getElem? (i := 1326) (by decide +kernel), List.mem_of_getElem? (i := 1327) (by decide +kernel)⟩
theorem lw_p41 : lw_okq (⟨"RedoMachineModel", "write", "(IIJ)V"⟩, 59) := ⟨⟨by decide +kernel, by decide +kernel⟩, List.mem_of_getElem? (i := 1061) (by decide +kernel), List.mem_of_getElem? (i := 1330) (by decide +kernel), List.mem_of_getElem? (i := 1331) (by decide +kernel)⟩
theorem lw_p42 : lw_okq (⟨"RedoMachineModel", "get", "(I)J"⟩, 59) := ⟨⟨by decide +kernel, by decide +kernel⟩, List.mem_of_getElem? (i := 1061) (by decide +kernel), List.mem_of_getElem? (i := 1334) (by decide +kernel), List.mem_of_getElem? (i := 1335) (by decide +kernel)⟩
theorem lw_p43 : lw_okq (⟨"RedoMachineModel", "makeCell", "(I)V"⟩, 59) := ⟨⟨by decide +kernel, by decide +kernel⟩, List.mem_of_getElem? (i := 1061) (by decide +kernel), List.mem_of_getElem? (i := 1338) (by decide +kernel), List.mem_of_getElem? (i := 1339) (by decide +kernel)⟩
theorem lw_p44 : lw_okq (⟨"RedoMachineModel", "has", "(JII)Z"⟩, 59) := ⟨⟨by decide +kernel, by decide +kernel⟩, List.mem_of_getElem? (i := 1061) (by decide +kernel), List.mem_of_getElem? (i := 1343) (by decide +kernel), List.mem_of_getElem? (i := 1344) (by decide +kernel)⟩
theorem lw_p45 : lw_okq (⟨"RedoMachineModel", "takeCell", "(I)V"⟩, 59) := ⟨⟨by decide +kernel, by decide +kernel⟩, List.mem_of_getElem? (i := 1061) (by decide +kernel), List.mem_of_getElem? (i := 1350) (by decide +kernel), List.mem_of_getElem? (i := 1351) (by decide +kernel)⟩
theorem lw_p46 : lw_okq (⟨"RedoMachineModel", "same", "(I)V"⟩, 59) := ⟨⟨by decide +kernel, by decide +kernel⟩, List.mem_of_getElem? (i := 1061) (by decide +kernel), List.mem_of_getElem? (i := 1354) (by decide +kernel), List.mem_of_getElem? (i := 1355) (by decide +kernel)⟩
theorem lw_p47 : lw_okq (⟨"RedoMachineModel", "compare", "(JJ)I"⟩, 59) := ⟨⟨by decide +kernel, by decide +kernel⟩, List.mem_of_getElem? (i := 1061) (by decide +kernel), List.mem_of_getElem? (i := 1358) (by decide +kernel), List.mem_of_getElem? (i := 1359) (by decide +kernel)⟩
def lw_privs_3 : List (MethodName × Nat) := [(⟨"RedoMachineModel", "pushFrame", "(III)V"⟩, 59), (⟨"RedoMachineModel", "redos", "()I"⟩, 59), (⟨"RedoMachineModel", "grow", "(I)V"⟩, 59), (⟨"RedoMachineModel", "fail", "()V"⟩, 59), (⟨"RedoMachineModel", "lastRedo", "()I"⟩, 59), (⟨"RedoMachineModel", "dropFrom", "(I)V"⟩, 59), (⟨"RedoMachineModel", "sizeOf", "(I)I"⟩, 59), (⟨"RedoMachineModel", "step", "()V"⟩, 59), (⟨"RedoMachineModel", "set", "(IJ)V"⟩, 59), (⟨"RedoMachineModel", "write", "(IIJ)V"⟩, 59), (⟨"RedoMachineModel", "get", "(I)J"⟩, 59), (⟨"RedoMachineModel", "makeCell", "(I)V"⟩, 59), (⟨"RedoMachineModel", "has", "(JII)Z"⟩, 59), (⟨"RedoMachineModel", "takeCell", "(I)V"⟩, 59), (⟨"RedoMachineModel", "same", "(I)V"⟩, 59), (⟨"RedoMachineModel", "compare", "(JJ)I"⟩, 59)]
theorem lw_r3 : ∀ q ∈ lw_privs_3, lw_okq q := List.forall_mem_cons.mpr ⟨lw_p32, List.forall_mem_cons.mpr ⟨lw_p33, List.forall_mem_cons.mpr ⟨lw_p34, List.forall_mem_cons.mpr ⟨lw_p35, List.forall_mem_cons.mpr ⟨lw_p36, List.forall_mem_cons.mpr ⟨lw_p37, List.forall_mem_cons.mpr ⟨lw_p38, List.forall_mem_cons.mpr ⟨lw_p39, List.forall_mem_cons.mpr ⟨lw_p40, List.forall_mem_cons.mpr ⟨lw_p41, List.forall_mem_cons.mpr ⟨lw_p42, List.forall_mem_cons.mpr ⟨lw_p43, List.forall_mem_cons.mpr ⟨lw_p44, List.forall_mem_cons.mpr ⟨lw_p45, List.forall_mem_cons.mpr ⟨lw_p46, List.forall_mem_cons.mpr ⟨lw_p47, fun _ h => absurd h List.not_mem_nil⟩⟩⟩⟩⟩⟩⟩⟩⟩⟩⟩⟩⟩⟩⟩⟩
theorem lw_p48 : lw_okq (⟨"RedoMachineModel", "summed", "(I)V"⟩, 59) := ⟨⟨by decide +kernel, by decide +kernel⟩, List.mem_of_getElem? (i := 1061) (by decide +kernel), List.mem_of_getElem? (i := 1362) (by decide +kernel), List.mem_of_getElem? (i := 1363) (by decide +kernel)⟩
theorem lw_p49 : lw_okq (⟨"RedoMachineModel", "compared", "(I)V"⟩, 59) := ⟨⟨by decide +kernel, by decide +kernel⟩, List.mem_of_getElem? (i := 1061) (by decide +kernel), List.mem_of_getElem? (i := 1366) (by decide +kernel), List.mem_of_getElem? (i := 1367) (by decide +kernel)⟩
theorem lw_p50 : lw_okq (⟨"RedoMachineModel", "tryLater", "(I)V"⟩, 59) := ⟨⟨by decide +kernel, by decide +kernel⟩, List.mem_of_getElem? (i := 1061) (by decide +kernel), List.mem_of_getElem? (i := 1373) (by decide +kernel), List.mem_of_getElem? (i := 1374) (by decide +kernel)⟩
theorem lw_p51 : lw_okq (⟨"RedoMachineModel", "call", "(I)V"⟩, 59) := ⟨⟨by decide +kernel, by decide +kernel⟩, List.mem_of_getElem? (i := 1061) (by decide +kernel), List.mem_of_getElem? (i := 1377) (by decide +kernel), List.mem_of_getElem? (i := 1378) (by decide +kernel)⟩
theorem lw_p52 : lw_okq (⟨"RedoMachineModel", "cutOrDrop", "(I)V"⟩, 59) := ⟨⟨by decide +kernel, by decide +kernel⟩, List.mem_of_getElem? (i := 1061) (by decide +kernel), List.mem_of_getElem? (i := 1381) (by decide +kernel), List.mem_of_getElem? (i := 1382) (by decide +kernel)⟩
theorem lw_p53 : lw_okq (⟨"RedoMachineModel", "cut", "(I)V"⟩, 59) := ⟨⟨by decide +kernel, by decide +kernel⟩, List.mem_of_getElem? (i := 1061) (by decide +kernel), List.mem_of_getElem? (i := 1385) (by decide +kernel), List.mem_of_getElem? (i := 1386) (by decide +kernel)⟩
theorem lw_p54 : lw_okq (⟨"RedoMachineModel", "redoAt", "(I)I"⟩, 59) := ⟨⟨by decide +kernel, by decide +kernel⟩, List.mem_of_getElem? (i := 1061) (by decide +kernel), List.mem_of_getElem? (i := 1389) (by decide +kernel), List.mem_of_getElem? (i := 1390) (by decide +kernel)⟩
theorem lw_p55 : lw_okq (⟨"RedoMachineModel", "dropAbove", "()V"⟩, 59) := ⟨⟨by decide +kernel, by decide +kernel⟩, List.mem_of_getElem? (i := 1061) (by decide +kernel), List.mem_of_getElem? (i := 1393) (by decide +kernel), List.mem_of_getElem? (i := 1394) (by decide +kernel)⟩
theorem lw_p56 : lw_okq (⟨"RedoMachineModel", "copyFrame", "(II)V"⟩, 59) := ⟨⟨by decide +kernel, by decide +kernel⟩, List.mem_of_getElem? (i := 1061) (by decide +kernel), List.mem_of_getElem? (i := 1397) (by decide +kernel), List.mem_of_getElem? (i := 1398) (by decide +kernel)⟩
theorem lw_p57 : lw_okq (⟨"RedoMachineModel", "isMoved", "(II)Z"⟩, 59) := ⟨⟨by decide +kernel, by decide +kernel⟩, List.mem_of_getElem? (i := 1061) (by decide +kernel), List.mem_of_getElem? (i := 1401) (by decide +kernel), List.mem_of_getElem? (i := 1402) (by decide +kernel)⟩
theorem lw_p58 : lw_okq (⟨"RedoMachineModel", "exit", "()V"⟩, 59) := ⟨⟨by decide +kernel, by decide +kernel⟩, List.mem_of_getElem? (i := 1061) (by decide +kernel), List.mem_of_getElem? (i := 1405) (by decide +kernel), List.mem_of_getElem? (i := 1406) (by decide +kernel)⟩
theorem lw_p59 : lw_okq (⟨"RedoMachineModel", "say", "(I)V"⟩, 59) := ⟨⟨by decide +kernel, by decide +kernel⟩, List.mem_of_getElem? (i := 1061) (by decide +kernel), List.mem_of_getElem? (i := 1418) (by decide +kernel), List.mem_of_getElem? (i := 1419) (by decide +kernel)⟩
theorem lw_p60 : lw_okq (⟨"RedoMachineModel", "sayNumber", "(J)V"⟩, 59) := ⟨⟨by decide +kernel, by decide +kernel⟩, List.mem_of_getElem? (i := 1061) (by decide +kernel), List.mem_of_getElem? (i := 1423) (by decide +kernel), List.mem_of_getElem? (i := 1424) (by decide +kernel)⟩
theorem lw_p61 : lw_okq (⟨"RedoMachineModel", "sayCell", "(II)I"⟩, 59) := ⟨⟨by decide +kernel, by decide +kernel⟩, List.mem_of_getElem? (i := 1061) (by decide +kernel), List.mem_of_getElem? (i := 1429) (by decide +kernel), List.mem_of_getElem? (i := 1430) (by decide +kernel)⟩
def lw_privs_4 : List (MethodName × Nat) := [(⟨"RedoMachineModel", "summed", "(I)V"⟩, 59), (⟨"RedoMachineModel", "compared", "(I)V"⟩, 59), (⟨"RedoMachineModel", "tryLater", "(I)V"⟩, 59), (⟨"RedoMachineModel", "call", "(I)V"⟩, 59), (⟨"RedoMachineModel", "cutOrDrop", "(I)V"⟩, 59), (⟨"RedoMachineModel", "cut", "(I)V"⟩, 59), (⟨"RedoMachineModel", "redoAt", "(I)I"⟩, 59), (⟨"RedoMachineModel", "dropAbove", "()V"⟩, 59), (⟨"RedoMachineModel", "copyFrame", "(II)V"⟩, 59), (⟨"RedoMachineModel", "isMoved", "(II)Z"⟩, 59), (⟨"RedoMachineModel", "exit", "()V"⟩, 59), (⟨"RedoMachineModel", "say", "(I)V"⟩, 59), (⟨"RedoMachineModel", "sayNumber", "(J)V"⟩, 59), (⟨"RedoMachineModel", "sayCell", "(II)I"⟩, 59)]
theorem lw_r4 : ∀ q ∈ lw_privs_4, lw_okq q := List.forall_mem_cons.mpr ⟨lw_p48, List.forall_mem_cons.mpr ⟨lw_p49, List.forall_mem_cons.mpr ⟨lw_p50, List.forall_mem_cons.mpr ⟨lw_p51, List.forall_mem_cons.mpr ⟨lw_p52, List.forall_mem_cons.mpr ⟨lw_p53, List.forall_mem_cons.mpr ⟨lw_p54, List.forall_mem_cons.mpr ⟨lw_p55, List.forall_mem_cons.mpr ⟨lw_p56, List.forall_mem_cons.mpr ⟨lw_p57, List.forall_mem_cons.mpr ⟨lw_p58, List.forall_mem_cons.mpr ⟨lw_p59, List.forall_mem_cons.mpr ⟨lw_p60, List.forall_mem_cons.mpr ⟨lw_p61, fun _ h => absurd h List.not_mem_nil⟩⟩⟩⟩⟩⟩⟩⟩⟩⟩⟩⟩⟩⟩
def lw_privs : List (MethodName × Nat) := lw_privs_1 ++ (lw_privs_2 ++ (lw_privs_3 ++ (lw_privs_4)))
def lw_tbl : List Cond := k2_sels lw_privs ++ tables_1
theorem lw_privs_ok : ∀ q ∈ lw_privs, lw_okq q := by
  show ∀ q ∈ lw_privs_1 ++ (lw_privs_2 ++ (lw_privs_3 ++ (lw_privs_4))), lw_okq q
  exact List.forall_mem_append.mpr ⟨lw_r1, List.forall_mem_append.mpr ⟨lw_r2, List.forall_mem_append.mpr ⟨lw_r3, lw_r4⟩⟩⟩
end
section
def RX0 : String := "RedoMachine$Engine"
def TX0 : u_T := fun k => match k with
  | 0 => ("RedoMachine$Engine", "stack", "LRedoMachine$Stack;", true)
  | 1 => ("RedoMachine$Engine", "heap", "LRedoMachine$Heap;", true)
  | 2 => ("RedoMachine$Engine", "state", "I", false)
  | 3 => ("RedoMachine$Engine", "steps", "I", false)
  | 4 => ("RedoMachine$Engine", "solutions", "I", false)
  | 5 => ("RedoMachine$Engine", "work", "LRedoMachine$Frame;", false)
  | _ => ("RedoMachine$Engine", "next", "I", false)
def tyX0 : Nat → FieldType := fun k => match k with
  | 0 => .object "RedoMachine$Stack"
  | 1 => .object "RedoMachine$Heap"
  | 2 => .int
  | 3 => .int
  | 4 => .int
  | 5 => .object "RedoMachine$Frame"
  | _ => .int
theorem nmX0 : ∀ a, a < 7 → ∀ b, b < 7 → a ≠ b → (TX0 a).2.1 ≠ (TX0 b).2.1 := by decide +kernel
theorem tyX0_ok : ∀ k, k < 7 → parseFieldDescriptor (TX0 k).2.2.1 = some (tyX0 k) := by decide +kernel
abbrev cX0_init : ByteArray := prog_2_method_1_code
def yX0_init : MethodName := ⟨RX0, "<init>", "()V"⟩
abbrev cX0_start : ByteArray := prog_2_method_2_code
def yX0_start : MethodName := ⟨RX0, "start", "(LRedoMachine$Procedure;[III)V"⟩
abbrev cX0_advance : ByteArray := prog_2_method_3_code
def yX0_advance : MethodName := ⟨RX0, "advance", "(I)I"⟩
abbrev cX0_figure : ByteArray := prog_2_method_4_code
def yX0_figure : MethodName := ⟨RX0, "figure", "(I)I"⟩
abbrev cX0_hasOut : ByteArray := prog_2_method_5_code
def yX0_hasOut : MethodName := ⟨RX0, "hasOut", "(I)Z"⟩
abbrev cX0_outValue : ByteArray := prog_2_method_6_code
def yX0_outValue : MethodName := ⟨RX0, "outValue", "(I)J"⟩
abbrev cX0_slotSeen : ByteArray := prog_2_method_7_code
def yX0_slotSeen : MethodName := ⟨RX0, "slotSeen", "(I)J"⟩
abbrev cX0_step : ByteArray := prog_2_method_8_code
def yX0_step : MethodName := ⟨RX0, "step", "(LRedoMachine$Frame;)I"⟩
abbrev cX0_settle : ByteArray := prog_2_method_9_code
def yX0_settle : MethodName := ⟨RX0, "settle", "(I)V"⟩
abbrev cX0_become : ByteArray := prog_2_method_10_code
def yX0_become : MethodName := ⟨RX0, "become", "(LRedoMachine$Frame;IJ)I"⟩
abbrev cX0_go : ByteArray := prog_2_method_11_code
def yX0_go : MethodName := ⟨RX0, "go", "(I)I"⟩
abbrev cX0_make : ByteArray := prog_2_method_12_code
def yX0_make : MethodName := ⟨RX0, "make", "(LRedoMachine$Frame;LRedoMachine$Instruction;)I"⟩
abbrev cX0_take : ByteArray := prog_2_method_13_code
def yX0_take : MethodName := ⟨RX0, "take", "(LRedoMachine$Frame;LRedoMachine$Instruction;)I"⟩
abbrev cX0_sum : ByteArray := prog_2_method_14_code
def yX0_sum : MethodName := ⟨RX0, "sum", "(LRedoMachine$Frame;LRedoMachine$Instruction;)I"⟩
abbrev cX0_result : ByteArray := prog_2_method_15_code
def yX0_result : MethodName := ⟨RX0, "result", "(III)I"⟩
abbrev cX0_compare : ByteArray := prog_2_method_16_code
def yX0_compare : MethodName := ⟨RX0, "compare", "(LRedoMachine$Frame;LRedoMachine$Instruction;)I"⟩
abbrev cX0_holds : ByteArray := prog_2_method_17_code
def yX0_holds : MethodName := ⟨RX0, "holds", "(IJJ)Z"⟩
abbrev cX0_leaveRedo : ByteArray := prog_2_method_18_code
def yX0_leaveRedo : MethodName := ⟨RX0, "leaveRedo", "(LRedoMachine$Frame;I)I"⟩
abbrev cX0_call : ByteArray := prog_2_method_19_code
def yX0_call : MethodName := ⟨RX0, "call", "(LRedoMachine$Frame;LRedoMachine$Instruction;)I"⟩
abbrev cX0_cut : ByteArray := prog_2_method_20_code
def yX0_cut : MethodName := ⟨RX0, "cut", "(LRedoMachine$Frame;J)I"⟩
abbrev cX0_drop : ByteArray := prog_2_method_21_code
def yX0_drop : MethodName := ⟨RX0, "drop", "(J)I"⟩
abbrev cX0_exit : ByteArray := prog_2_method_22_code
def yX0_exit : MethodName := ⟨RX0, "exit", "(LRedoMachine$Frame;)I"⟩
abbrev cX0_fail : ByteArray := prog_2_method_23_code
def yX0_fail : MethodName := ⟨RX0, "fail", "()V"⟩
def RX1 : String := "RedoMachine$Frame"
def TX1 : u_T := fun k => match k with
  | 0 => ("RedoMachine$Frame", "number", "I", true)
  | 1 => ("RedoMachine$Frame", "procedure", "LRedoMachine$Procedure;", false)
  | 2 => ("RedoMachine$Frame", "base", "I", false)
  | 3 => ("RedoMachine$Frame", "caller", "LRedoMachine$Frame;", false)
  | 4 => ("RedoMachine$Frame", "call", "LRedoMachine$Instruction;", false)
  | 5 => ("RedoMachine$Frame", "back", "I", false)
  | _ => ("RedoMachine$Frame", "redosAtCall", "I", false)
def tyX1 : Nat → FieldType := fun k => match k with
  | 0 => .int
  | 1 => .object "RedoMachine$Procedure"
  | 2 => .int
  | 3 => .object "RedoMachine$Frame"
  | 4 => .object "RedoMachine$Instruction"
  | 5 => .int
  | _ => .int
theorem nmX1 : ∀ a, a < 7 → ∀ b, b < 7 → a ≠ b → (TX1 a).2.1 ≠ (TX1 b).2.1 := by decide +kernel
theorem tyX1_ok : ∀ k, k < 7 → parseFieldDescriptor (TX1 k).2.2.1 = some (tyX1 k) := by decide +kernel
abbrev cX1_init : ByteArray := prog_3_method_1_code
def yX1_init : MethodName := ⟨RX1, "<init>", "(ILRedoMachine$Procedure;)V"⟩
def RX2 : String := "RedoMachine$Heap"
def TX2 : u_T := fun k => match k with
  | 0 => ("RedoMachine$Heap", "words", "LRedoMachine$LongRow;", true)
  | 1 => ("RedoMachine$Heap", "pending", "LRedoMachine$LongRow;", true)
  | 2 => ("RedoMachine$Heap", "limit", "I", false)
  | _ => ("RedoMachine$Heap", "greatest", "I", false)
def tyX2 : Nat → FieldType := fun k => match k with
  | 0 => .object "RedoMachine$LongRow"
  | 1 => .object "RedoMachine$LongRow"
  | 2 => .int
  | _ => .int
theorem nmX2 : ∀ a, a < 4 → ∀ b, b < 4 → a ≠ b → (TX2 a).2.1 ≠ (TX2 b).2.1 := by decide +kernel
theorem tyX2_ok : ∀ k, k < 4 → parseFieldDescriptor (TX2 k).2.2.1 = some (tyX2 k) := by decide +kernel
abbrev cX2_init : ByteArray := prog_4_method_1_code
def yX2_init : MethodName := ⟨RX2, "<init>", "()V"⟩
abbrev cX2_clear : ByteArray := prog_4_method_2_code
def yX2_clear : MethodName := ⟨RX2, "clear", "(I)V"⟩
abbrev cX2_used : ByteArray := prog_4_method_3_code
def yX2_used : MethodName := ⟨RX2, "used", "()I"⟩
abbrev cX2_goBackTo : ByteArray := prog_4_method_4_code
def yX2_goBackTo : MethodName := ⟨RX2, "goBackTo", "(I)V"⟩
abbrev cX2_hasRoom : ByteArray := prog_4_method_5_code
def yX2_hasRoom : MethodName := ⟨RX2, "hasRoom", "(I)Z"⟩
abbrev cX2_open : ByteArray := prog_4_method_6_code
def yX2_open : MethodName := ⟨RX2, "open", "(II)J"⟩
abbrev cX2_fill : ByteArray := prog_4_method_7_code
def yX2_fill : MethodName := ⟨RX2, "fill", "(J)V"⟩
abbrev cX2_field : ByteArray := prog_4_method_8_code
def yX2_field : MethodName := ⟨RX2, "field", "(JI)J"⟩
abbrev cX2_compare : ByteArray := prog_4_method_9_code
def yX2_compare : MethodName := ⟨RX2, "compare", "(JJ)I"⟩
abbrev cX2_awaitFields : ByteArray := prog_4_method_10_code
def yX2_awaitFields : MethodName := ⟨RX2, "awaitFields", "(JJ)V"⟩
def RX3 : String := "RedoMachine$Instruction"
def TX3 : u_T := fun k => match k with
  | 0 => ("RedoMachine$Instruction", "kind", "I", true)
  | 1 => ("RedoMachine$Instruction", "a", "I", true)
  | 2 => ("RedoMachine$Instruction", "b", "I", true)
  | 3 => ("RedoMachine$Instruction", "c", "I", true)
  | 4 => ("RedoMachine$Instruction", "d", "I", true)
  | 5 => ("RedoMachine$Instruction", "row", "[I", true)
  | _ => ("RedoMachine$Instruction", "callee", "LRedoMachine$Procedure;", false)
def tyX3 : Nat → FieldType := fun k => match k with
  | 0 => .int
  | 1 => .int
  | 2 => .int
  | 3 => .int
  | 4 => .int
  | 5 => .array .int
  | _ => .object "RedoMachine$Procedure"
theorem nmX3 : ∀ a, a < 7 → ∀ b, b < 7 → a ≠ b → (TX3 a).2.1 ≠ (TX3 b).2.1 := by decide +kernel
theorem tyX3_ok : ∀ k, k < 7 → parseFieldDescriptor (TX3 k).2.2.1 = some (tyX3 k) := by decide +kernel
abbrev cX3_init : ByteArray := prog_5_method_1_code
def yX3_init : MethodName := ⟨RX3, "<init>", "(IIIII[I)V"⟩
def RX4 : String := "RedoMachine$LongRow"
def TX4 : u_T := fun k => match k with
  | 0 => ("RedoMachine$LongRow", "items", "[J", false)
  | _ => ("RedoMachine$LongRow", "size", "I", false)
def tyX4 : Nat → FieldType := fun k => match k with
  | 0 => .array .long
  | _ => .int
theorem nmX4 : ∀ a, a < 2 → ∀ b, b < 2 → a ≠ b → (TX4 a).2.1 ≠ (TX4 b).2.1 := by decide +kernel
theorem tyX4_ok : ∀ k, k < 2 → parseFieldDescriptor (TX4 k).2.2.1 = some (tyX4 k) := by decide +kernel
abbrev cX4_init : ByteArray := prog_6_method_1_code
def yX4_init : MethodName := ⟨RX4, "<init>", "()V"⟩
abbrev cX4_size : ByteArray := prog_6_method_2_code
def yX4_size : MethodName := ⟨RX4, "size", "()I"⟩
abbrev cX4_at : ByteArray := prog_6_method_3_code
def yX4_at : MethodName := ⟨RX4, "at", "(I)J"⟩
abbrev cX4_set : ByteArray := prog_6_method_4_code
def yX4_set : MethodName := ⟨RX4, "set", "(IJ)V"⟩
abbrev cX4_push : ByteArray := prog_6_method_5_code
def yX4_push : MethodName := ⟨RX4, "push", "(J)V"⟩
abbrev cX4_pop : ByteArray := prog_6_method_6_code
def yX4_pop : MethodName := ⟨RX4, "pop", "()J"⟩
abbrev cX4_shrink : ByteArray := prog_6_method_7_code
def yX4_shrink : MethodName := ⟨RX4, "shrink", "(I)V"⟩
def RX5 : String := "RedoMachine$Procedure"
def TX5 : u_T := fun k => match k with
  | 0 => ("RedoMachine$Procedure", "again", "Z", true)
  | 1 => ("RedoMachine$Procedure", "slots", "I", true)
  | 2 => ("RedoMachine$Procedure", "ins", "I", true)
  | 3 => ("RedoMachine$Procedure", "outs", "[I", true)
  | _ => ("RedoMachine$Procedure", "instructions", "Ljava/util/ArrayList;", true)
def tyX5 : Nat → FieldType := fun k => match k with
  | 0 => .boolean
  | 1 => .int
  | 2 => .int
  | 3 => .array .int
  | _ => .object "java/util/ArrayList"
theorem nmX5 : ∀ a, a < 5 → ∀ b, b < 5 → a ≠ b → (TX5 a).2.1 ≠ (TX5 b).2.1 := by decide +kernel
theorem tyX5_ok : ∀ k, k < 5 → parseFieldDescriptor (TX5 k).2.2.1 = some (tyX5 k) := by decide +kernel
abbrev cX5_init : ByteArray := prog_7_method_1_code
def yX5_init : MethodName := ⟨RX5, "<init>", "(ZII[I)V"⟩
abbrev cX5_fits : ByteArray := prog_7_method_2_code
def yX5_fits : MethodName := ⟨RX5, "fits", "(II[I)Z"⟩
abbrev cX5_allWithin : ByteArray := prog_7_method_3_code
def yX5_allWithin : MethodName := ⟨RX5, "allWithin", "([II)Z"⟩
abbrev cX5_frameSize : ByteArray := prog_7_method_4_code
def yX5_frameSize : MethodName := ⟨RX5, "frameSize", "()I"⟩
abbrev cX5_append : ByteArray := prog_7_method_5_code
def yX5_append : MethodName := ⟨RX5, "append", "(LRedoMachine$Instruction;)I"⟩
abbrev cX5_instructionAt : ByteArray := prog_7_method_6_code
def yX5_instructionAt : MethodName := ⟨RX5, "instructionAt", "(I)LRedoMachine$Instruction;"⟩
abbrev cX5_admits : ByteArray := prog_7_method_7_code
def yX5_admits : MethodName := ⟨RX5, "admits", "(LRedoMachine$Instruction;)Z"⟩
abbrev cX5_admitsCall : ByteArray := prog_7_method_8_code
def yX5_admitsCall : MethodName := ⟨RX5, "admitsCall", "(LRedoMachine$Instruction;)Z"⟩
abbrev cX5_hasSlot : ByteArray := prog_7_method_9_code
def yX5_hasSlot : MethodName := ⟨RX5, "hasSlot", "(I)Z"⟩
def RX6 : String := "RedoMachine$Redo"
def TX6 : u_T := fun k => match k with
  | 0 => ("RedoMachine$Redo", "frame", "LRedoMachine$Frame;", false)
  | 1 => ("RedoMachine$Redo", "instruction", "I", false)
  | 2 => ("RedoMachine$Redo", "dead", "Z", false)
  | 3 => ("RedoMachine$Redo", "framesBelow", "I", false)
  | 4 => ("RedoMachine$Redo", "valuesBelow", "I", false)
  | 5 => ("RedoMachine$Redo", "trailBelow", "I", false)
  | _ => ("RedoMachine$Redo", "heapThen", "I", false)
def tyX6 : Nat → FieldType := fun k => match k with
  | 0 => .object "RedoMachine$Frame"
  | 1 => .int
  | 2 => .boolean
  | 3 => .int
  | 4 => .int
  | 5 => .int
  | _ => .int
theorem nmX6 : ∀ a, a < 7 → ∀ b, b < 7 → a ≠ b → (TX6 a).2.1 ≠ (TX6 b).2.1 := by decide +kernel
theorem tyX6_ok : ∀ k, k < 7 → parseFieldDescriptor (TX6 k).2.2.1 = some (tyX6 k) := by decide +kernel
abbrev cX6_init : ByteArray := prog_8_method_1_code
def yX6_init : MethodName := ⟨RX6, "<init>", "(LRedoMachine$Frame;)V"⟩
def RX7 : String := "RedoMachine$Stack"
def TX7 : u_T := fun k => match k with
  | 0 => ("RedoMachine$Stack", "frames", "Ljava/util/ArrayList;", true)
  | 1 => ("RedoMachine$Stack", "frameCount", "I", false)
  | 2 => ("RedoMachine$Stack", "redos", "Ljava/util/ArrayList;", true)
  | 3 => ("RedoMachine$Stack", "redoCount", "I", false)
  | 4 => ("RedoMachine$Stack", "values", "LRedoMachine$LongRow;", true)
  | 5 => ("RedoMachine$Stack", "trail", "LRedoMachine$LongRow;", true)
  | 6 => ("RedoMachine$Stack", "limit", "I", false)
  | _ => ("RedoMachine$Stack", "greatest", "I", false)
def tyX7 : Nat → FieldType := fun k => match k with
  | 0 => .object "java/util/ArrayList"
  | 1 => .int
  | 2 => .object "java/util/ArrayList"
  | 3 => .int
  | 4 => .object "RedoMachine$LongRow"
  | 5 => .object "RedoMachine$LongRow"
  | 6 => .int
  | _ => .int
theorem nmX7 : ∀ a, a < 8 → ∀ b, b < 8 → a ≠ b → (TX7 a).2.1 ≠ (TX7 b).2.1 := by decide +kernel
theorem tyX7_ok : ∀ k, k < 8 → parseFieldDescriptor (TX7 k).2.2.1 = some (tyX7 k) := by decide +kernel
abbrev cX7_init : ByteArray := prog_9_method_1_code
def yX7_init : MethodName := ⟨RX7, "<init>", "()V"⟩
abbrev cX7_clear : ByteArray := prog_9_method_2_code
def yX7_clear : MethodName := ⟨RX7, "clear", "(I)V"⟩
abbrev cX7_size : ByteArray := prog_9_method_3_code
def yX7_size : MethodName := ⟨RX7, "size", "()I"⟩
abbrev cX7_hasRoom : ByteArray := prog_9_method_4_code
def yX7_hasRoom : MethodName := ⟨RX7, "hasRoom", "(I)Z"⟩
abbrev cX7_noteSize : ByteArray := prog_9_method_5_code
def yX7_noteSize : MethodName := ⟨RX7, "noteSize", "()V"⟩
abbrev cX7_pushFrame : ByteArray := prog_9_method_6_code
def yX7_pushFrame : MethodName := ⟨RX7, "pushFrame", "(LRedoMachine$Procedure;)LRedoMachine$Frame;"⟩
abbrev cX7_pushRedo : ByteArray := prog_9_method_7_code
def yX7_pushRedo : MethodName := ⟨RX7, "pushRedo", "(LRedoMachine$Frame;II)V"⟩
abbrev cX7_redoAt : ByteArray := prog_9_method_8_code
def yX7_redoAt : MethodName := ⟨RX7, "redoAt", "(I)LRedoMachine$Redo;"⟩
abbrev cX7_read : ByteArray := prog_9_method_9_code
def yX7_read : MethodName := ⟨RX7, "read", "(LRedoMachine$Frame;I)J"⟩
abbrev cX7_write : ByteArray := prog_9_method_10_code
def yX7_write : MethodName := ⟨RX7, "write", "(LRedoMachine$Frame;IJ)V"⟩
abbrev cX7_cutTo : ByteArray := prog_9_method_11_code
def yX7_cutTo : MethodName := ⟨RX7, "cutTo", "(ILRedoMachine$Frame;)V"⟩
abbrev cX7_keepFrames : ByteArray := prog_9_method_12_code
def yX7_keepFrames : MethodName := ⟨RX7, "keepFrames", "(I)V"⟩
abbrev cX7_dropRedo : ByteArray := prog_9_method_13_code
def yX7_dropRedo : MethodName := ⟨RX7, "dropRedo", "(I)V"⟩
abbrev cX7_leave : ByteArray := prog_9_method_14_code
def yX7_leave : MethodName := ⟨RX7, "leave", "(LRedoMachine$Frame;)V"⟩
abbrev cX7_popRedo : ByteArray := prog_9_method_15_code
def yX7_popRedo : MethodName := ⟨RX7, "popRedo", "()LRedoMachine$Redo;"⟩
abbrev cX7_goBackTo : ByteArray := prog_9_method_16_code
def yX7_goBackTo : MethodName := ⟨RX7, "goBackTo", "(LRedoMachine$Redo;)V"⟩
def RX8 : String := "RedoMachine$Text"
def TX8 : u_T := fun k => match k with
  | 0 => ("RedoMachine$Text", "characters", "Ljava/lang/StringBuilder;", true)
  | _ => ("RedoMachine$Text", "open", "LRedoMachine$LongRow;", true)
def tyX8 : Nat → FieldType := fun k => match k with
  | 0 => .object "java/lang/StringBuilder"
  | _ => .object "RedoMachine$LongRow"
theorem nmX8 : ∀ a, a < 2 → ∀ b, b < 2 → a ≠ b → (TX8 a).2.1 ≠ (TX8 b).2.1 := by decide +kernel
theorem tyX8_ok : ∀ k, k < 2 → parseFieldDescriptor (TX8 k).2.2.1 = some (tyX8 k) := by decide +kernel
abbrev cX8_init : ByteArray := prog_10_method_1_code
def yX8_init : MethodName := ⟨RX8, "<init>", "()V"⟩
abbrev cX8_write : ByteArray := prog_10_method_2_code
def yX8_write : MethodName := ⟨RX8, "write", "(JLRedoMachine$Heap;)I"⟩
abbrev cX8_writeHead : ByteArray := prog_10_method_3_code
def yX8_writeHead : MethodName := ⟨RX8, "writeHead", "(J)V"⟩
abbrev cX8_writeMore : ByteArray := prog_10_method_4_code
def yX8_writeMore : MethodName := ⟨RX8, "writeMore", "(LRedoMachine$Heap;)V"⟩
abbrev cX8_characterAt : ByteArray := prog_10_method_5_code
def yX8_characterAt : MethodName := ⟨RX8, "characterAt", "(I)I"⟩
def RX9 : String := "RedoMachine$Value"
def TX9 : u_T := fun k => match k with
  | _ => ("", "", "", false)
def tyX9 : Nat → FieldType := fun k => match k with
  | _ => .int
theorem nmX9 : ∀ a, a < 0 → ∀ b, b < 0 → a ≠ b → (TX9 a).2.1 ≠ (TX9 b).2.1 := by decide +kernel
theorem tyX9_ok : ∀ k, k < 0 → parseFieldDescriptor (TX9 k).2.2.1 = some (tyX9 k) := by decide +kernel
abbrev cX9_cell : ByteArray := prog_11_method_2_code
def yX9_cell : MethodName := ⟨RX9, "cell", "(III)J"⟩
abbrev cX9_isCell : ByteArray := prog_11_method_3_code
def yX9_isCell : MethodName := ⟨RX9, "isCell", "(J)Z"⟩
abbrev cX9_tag : ByteArray := prog_11_method_4_code
def yX9_tag : MethodName := ⟨RX9, "tag", "(J)I"⟩
abbrev cX9_fields : ByteArray := prog_11_method_5_code
def yX9_fields : MethodName := ⟨RX9, "fields", "(J)I"⟩
abbrev cX9_place : ByteArray := prog_11_method_6_code
def yX9_place : MethodName := ⟨RX9, "place", "(J)I"⟩
abbrev cX9_hasTag : ByteArray := prog_11_method_7_code
def yX9_hasTag : MethodName := ⟨RX9, "hasTag", "(JI)Z"⟩
abbrev cX9_differ : ByteArray := prog_11_method_8_code
def yX9_differ : MethodName := ⟨RX9, "differ", "(JJ)Z"⟩
abbrev cX9_shown : ByteArray := prog_11_method_9_code
def yX9_shown : MethodName := ⟨RX9, "shown", "(J)J"⟩
def RX10 : String := "RedoMachine"
def TX10 : u_T := fun k => match k with
  | 0 => ("RedoMachine", "row", "[I", true)
  | 1 => ("RedoMachine", "rowCount", "I", false)
  | 2 => ("RedoMachine", "procedures", "Ljava/util/ArrayList;", true)
  | 3 => ("RedoMachine", "instructionCount", "I", false)
  | 4 => ("RedoMachine", "engine", "LRedoMachine$Engine;", true)
  | _ => ("RedoMachine", "out", "LRedoMachine$Text;", true)
def tyX10 : Nat → FieldType := fun k => match k with
  | 0 => .array .int
  | 1 => .int
  | 2 => .object "java/util/ArrayList"
  | 3 => .int
  | 4 => .object "RedoMachine$Engine"
  | _ => .object "RedoMachine$Text"
theorem nmX10 : ∀ a, a < 6 → ∀ b, b < 6 → a ≠ b → (TX10 a).2.1 ≠ (TX10 b).2.1 := by decide +kernel
theorem tyX10_ok : ∀ k, k < 6 → parseFieldDescriptor (TX10 k).2.2.1 = some (tyX10 k) := by decide +kernel
abbrev cX10_init : ByteArray := prog_1_method_1_code
def yX10_init : MethodName := ⟨RX10, "<init>", "()V"⟩
abbrev cX10_put : ByteArray := prog_1_method_2_code
def yX10_put : MethodName := ⟨RX10, "put", "(I)Z"⟩
abbrev cX10_procedure : ByteArray := prog_1_method_3_code
def yX10_procedure : MethodName := ⟨RX10, "procedure", "(ZII)I"⟩
abbrev cX10_add : ByteArray := prog_1_method_4_code
def yX10_add : MethodName := ⟨RX10, "add", "(IIIIII)I"⟩
abbrev cX10_begin : ByteArray := prog_1_method_5_code
def yX10_begin : MethodName := ⟨RX10, "begin", "(III)Z"⟩
abbrev cX10_run : ByteArray := prog_1_method_6_code
def yX10_run : MethodName := ⟨RX10, "run", "(I)I"⟩
abbrev cX10_told : ByteArray := prog_1_method_7_code
def yX10_told : MethodName := ⟨RX10, "told", "(I)I"⟩
abbrev cX10_tell : ByteArray := prog_1_method_8_code
def yX10_tell : MethodName := ⟨RX10, "tell", "(I)I"⟩
abbrev cX10_letter : ByteArray := prog_1_method_9_code
def yX10_letter : MethodName := ⟨RX10, "letter", "(I)I"⟩
abbrev cX10_slot : ByteArray := prog_1_method_10_code
def yX10_slot : MethodName := ⟨RX10, "slot", "(I)J"⟩
abbrev cX10_takeRow : ByteArray := prog_1_method_11_code
def yX10_takeRow : MethodName := ⟨RX10, "takeRow", "()[I"⟩
abbrev cX10_procedureAt : ByteArray := prog_1_method_12_code
def yX10_procedureAt : MethodName := ⟨RX10, "procedureAt", "(I)LRedoMachine$Procedure;"⟩
abbrev cX10_within : ByteArray := prog_1_method_13_code
def yX10_within : MethodName := ⟨RX10, "within", "(II)Z"⟩
abbrev cX10_isLimit : ByteArray := prog_1_method_14_code
def yX10_isLimit : MethodName := ⟨RX10, "isLimit", "(I)Z"⟩
def RX11 : String := "RedoMachineModel"
def TX11 : u_T := fun k => match k with
  | 0 => ("RedoMachineModel", "thrown", "I", false)
  | 1 => ("RedoMachineModel", "row", "[I", true)
  | 2 => ("RedoMachineModel", "rowMany", "I", false)
  | 3 => ("RedoMachineModel", "procedures", "I", false)
  | 4 => ("RedoMachineModel", "again", "[Z", true)
  | 5 => ("RedoMachineModel", "slots", "[I", true)
  | 6 => ("RedoMachineModel", "ins", "[I", true)
  | 7 => ("RedoMachineModel", "outMany", "[I", true)
  | 8 => ("RedoMachineModel", "out", "[I", true)
  | 9 => ("RedoMachineModel", "count", "[I", true)
  | 10 => ("RedoMachineModel", "spot", "[I", true)
  | 11 => ("RedoMachineModel", "instructions", "I", false)
  | 12 => ("RedoMachineModel", "what", "[I", true)
  | 13 => ("RedoMachineModel", "one", "[I", true)
  | 14 => ("RedoMachineModel", "two", "[I", true)
  | 15 => ("RedoMachineModel", "three", "[I", true)
  | 16 => ("RedoMachineModel", "four", "[I", true)
  | 17 => ("RedoMachineModel", "many", "[I", true)
  | 18 => ("RedoMachineModel", "rows", "[I", true)
  | 19 => ("RedoMachineModel", "cells", "I", false)
  | 20 => ("RedoMachineModel", "tag", "[I", true)
  | 21 => ("RedoMachineModel", "cellMany", "[I", true)
  | 22 => ("RedoMachineModel", "cellFirst", "[I", true)
  | 23 => ("RedoMachineModel", "field", "[J", true)
  | 24 => ("RedoMachineModel", "fields", "I", false)
  | 25 => ("RedoMachineModel", "heap", "I", false)
  | 26 => ("RedoMachineModel", "things", "I", false)
  | 27 => ("RedoMachineModel", "isFrame", "[Z", true)
  | 28 => ("RedoMachineModel", "procedure", "[I", true)
  | 29 => ("RedoMachineModel", "from", "[I", true)
  | 30 => ("RedoMachineModel", "next", "[I", true)
  | 31 => ("RedoMachineModel", "caller", "[I", true)
  | 32 => ("RedoMachineModel", "callAt", "[I", true)
  | 33 => ("RedoMachineModel", "redosThen", "[I", true)
  | 34 => ("RedoMachineModel", "dead", "[Z", true)
  | 35 => ("RedoMachineModel", "heapThen", "[I", true)
  | 36 => ("RedoMachineModel", "cellsThen", "[I", true)
  | 37 => ("RedoMachineModel", "fieldsThen", "[I", true)
  | 38 => ("RedoMachineModel", "trailThen", "[I", true)
  | 39 => ("RedoMachineModel", "slot", "[J", true)
  | 40 => ("RedoMachineModel", "slotTop", "I", false)
  | 41 => ("RedoMachineModel", "trail", "I", false)
  | 42 => ("RedoMachineModel", "trailSlot", "[I", true)
  | 43 => ("RedoMachineModel", "trailValue", "[J", true)
  | 44 => ("RedoMachineModel", "state", "I", false)
  | 45 => ("RedoMachineModel", "work", "I", false)
  | 46 => ("RedoMachineModel", "steps", "I", false)
  | 47 => ("RedoMachineModel", "size", "I", false)
  | 48 => ("RedoMachineModel", "mostSize", "I", false)
  | 49 => ("RedoMachineModel", "mostHeap", "I", false)
  | 50 => ("RedoMachineModel", "solutions", "I", false)
  | 51 => ("RedoMachineModel", "stackLimit", "I", false)
  | 52 => ("RedoMachineModel", "heapLimit", "I", false)
  | 53 => ("RedoMachineModel", "letters", "[I", true)
  | 54 => ("RedoMachineModel", "letterMany", "I", false)
  | 55 => ("RedoMachineModel", "left", "[J", true)
  | 56 => ("RedoMachineModel", "right", "[J", true)
  | 57 => ("RedoMachineModel", "moved", "[I", true)
  | _ => ("RedoMachineModel", "firstMoved", "I", false)
def tyX11 : Nat → FieldType := fun k => match k with
  | 0 => .int
  | 1 => .array .int
  | 2 => .int
  | 3 => .int
  | 4 => .array .boolean
  | 5 => .array .int
  | 6 => .array .int
  | 7 => .array .int
  | 8 => .array .int
  | 9 => .array .int
  | 10 => .array .int
  | 11 => .int
  | 12 => .array .int
  | 13 => .array .int
  | 14 => .array .int
  | 15 => .array .int
  | 16 => .array .int
  | 17 => .array .int
  | 18 => .array .int
  | 19 => .int
  | 20 => .array .int
  | 21 => .array .int
  | 22 => .array .int
  | 23 => .array .long
  | 24 => .int
  | 25 => .int
  | 26 => .int
  | 27 => .array .boolean
  | 28 => .array .int
  | 29 => .array .int
  | 30 => .array .int
  | 31 => .array .int
  | 32 => .array .int
  | 33 => .array .int
  | 34 => .array .boolean
  | 35 => .array .int
  | 36 => .array .int
  | 37 => .array .int
  | 38 => .array .int
  | 39 => .array .long
  | 40 => .int
  | 41 => .int
  | 42 => .array .int
  | 43 => .array .long
  | 44 => .int
  | 45 => .int
  | 46 => .int
  | 47 => .int
  | 48 => .int
  | 49 => .int
  | 50 => .int
  | 51 => .int
  | 52 => .int
  | 53 => .array .int
  | 54 => .int
  | 55 => .array .long
  | 56 => .array .long
  | 57 => .array .int
  | _ => .int
theorem nmX11 : ∀ a, a < 59 → ∀ b, b < 59 → a ≠ b → (TX11 a).2.1 ≠ (TX11 b).2.1 := by decide +kernel
theorem tyX11_ok : ∀ k, k < 59 → parseFieldDescriptor (TX11 k).2.2.1 = some (tyX11 k) := by decide +kernel
abbrev cX11_init : ByteArray := prog_13_method_1_code
def yX11_init : MethodName := ⟨RX11, "<init>", "()V"⟩
abbrev cX11_thrown : ByteArray := prog_13_method_2_code
def yX11_thrown : MethodName := ⟨RX11, "thrown", "()I"⟩
abbrev cX11_put : ByteArray := prog_13_method_3_code
def yX11_put : MethodName := ⟨RX11, "put", "(I)Z"⟩
abbrev cX11_taken : ByteArray := prog_13_method_4_code
def yX11_taken : MethodName := ⟨RX11, "taken", "()I"⟩
abbrev cX11_isWithin : ByteArray := prog_13_method_5_code
def yX11_isWithin : MethodName := ⟨RX11, "isWithin", "(III)Z"⟩
abbrev cX11_areSlots : ByteArray := prog_13_method_6_code
def yX11_areSlots : MethodName := ⟨RX11, "areSlots", "(II)Z"⟩
abbrev cX11_procedure : ByteArray := prog_13_method_7_code
def yX11_procedure : MethodName := ⟨RX11, "procedure", "(ZII)I"⟩
abbrev cX11_isSlot : ByteArray := prog_13_method_8_code
def yX11_isSlot : MethodName := ⟨RX11, "isSlot", "(II)Z"⟩
abbrev cX11_isTo : ByteArray := prog_13_method_9_code
def yX11_isTo : MethodName := ⟨RX11, "isTo", "(I)Z"⟩
abbrev cX11_isRight : ByteArray := prog_13_method_10_code
def yX11_isRight : MethodName := ⟨RX11, "isRight", "(IIIIIII)Z"⟩
abbrev cX11_add : ByteArray := prog_13_method_11_code
def yX11_add : MethodName := ⟨RX11, "add", "(IIIIII)I"⟩
abbrev cX11_sizeOf : ByteArray := prog_13_method_12_code
def yX11_sizeOf : MethodName := ⟨RX11, "sizeOf", "(I)I"⟩
abbrev cX11_grow : ByteArray := prog_13_method_13_code
def yX11_grow : MethodName := ⟨RX11, "grow", "(I)V"⟩
abbrev cX11_dropFrom : ByteArray := prog_13_method_14_code
def yX11_dropFrom : MethodName := ⟨RX11, "dropFrom", "(I)V"⟩
abbrev cX11_redos : ByteArray := prog_13_method_15_code
def yX11_redos : MethodName := ⟨RX11, "redos", "()I"⟩
abbrev cX11_redoAt : ByteArray := prog_13_method_16_code
def yX11_redoAt : MethodName := ⟨RX11, "redoAt", "(I)I"⟩
abbrev cX11_lastRedo : ByteArray := prog_13_method_17_code
def yX11_lastRedo : MethodName := ⟨RX11, "lastRedo", "()I"⟩
abbrev cX11_pushFrame : ByteArray := prog_13_method_18_code
def yX11_pushFrame : MethodName := ⟨RX11, "pushFrame", "(III)V"⟩
abbrev cX11_cut : ByteArray := prog_13_method_19_code
def yX11_cut : MethodName := ⟨RX11, "cut", "(I)V"⟩
abbrev cX11_copyFrame : ByteArray := prog_13_method_20_code
def yX11_copyFrame : MethodName := ⟨RX11, "copyFrame", "(II)V"⟩
abbrev cX11_isMoved : ByteArray := prog_13_method_21_code
def yX11_isMoved : MethodName := ⟨RX11, "isMoved", "(II)Z"⟩
abbrev cX11_dropAbove : ByteArray := prog_13_method_22_code
def yX11_dropAbove : MethodName := ⟨RX11, "dropAbove", "()V"⟩
abbrev cX11_isCell : ByteArray := prog_13_method_23_code
def yX11_isCell : MethodName := ⟨RX11, "isCell", "(J)Z"⟩
abbrev cX11_get : ByteArray := prog_13_method_24_code
def yX11_get : MethodName := ⟨RX11, "get", "(I)J"⟩
abbrev cX11_write : ByteArray := prog_13_method_25_code
def yX11_write : MethodName := ⟨RX11, "write", "(IIJ)V"⟩
abbrev cX11_set : ByteArray := prog_13_method_26_code
def yX11_set : MethodName := ⟨RX11, "set", "(IJ)V"⟩
abbrev cX11_has : ByteArray := prog_13_method_27_code
def yX11_has : MethodName := ⟨RX11, "has", "(JII)Z"⟩
abbrev cX11_compare : ByteArray := prog_13_method_28_code
def yX11_compare : MethodName := ⟨RX11, "compare", "(JJ)I"⟩
abbrev cX11_makeCell : ByteArray := prog_13_method_29_code
def yX11_makeCell : MethodName := ⟨RX11, "makeCell", "(I)V"⟩
abbrev cX11_takeCell : ByteArray := prog_13_method_30_code
def yX11_takeCell : MethodName := ⟨RX11, "takeCell", "(I)V"⟩
abbrev cX11_fail : ByteArray := prog_13_method_31_code
def yX11_fail : MethodName := ⟨RX11, "fail", "()V"⟩
abbrev cX11_tryLater : ByteArray := prog_13_method_32_code
def yX11_tryLater : MethodName := ⟨RX11, "tryLater", "(I)V"⟩
abbrev cX11_call : ByteArray := prog_13_method_33_code
def yX11_call : MethodName := ⟨RX11, "call", "(I)V"⟩
abbrev cX11_exit : ByteArray := prog_13_method_34_code
def yX11_exit : MethodName := ⟨RX11, "exit", "()V"⟩
abbrev cX11_holds : ByteArray := prog_13_method_35_code
def yX11_holds : MethodName := ⟨RX11, "holds", "(III)Z"⟩
abbrev cX11_summed : ByteArray := prog_13_method_36_code
def yX11_summed : MethodName := ⟨RX11, "summed", "(I)V"⟩
abbrev cX11_compared : ByteArray := prog_13_method_37_code
def yX11_compared : MethodName := ⟨RX11, "compared", "(I)V"⟩
abbrev cX11_same : ByteArray := prog_13_method_38_code
def yX11_same : MethodName := ⟨RX11, "same", "(I)V"⟩
abbrev cX11_cutOrDrop : ByteArray := prog_13_method_39_code
def yX11_cutOrDrop : MethodName := ⟨RX11, "cutOrDrop", "(I)V"⟩
abbrev cX11_step : ByteArray := prog_13_method_40_code
def yX11_step : MethodName := ⟨RX11, "step", "()V"⟩
abbrev cX11_begin : ByteArray := prog_13_method_41_code
def yX11_begin : MethodName := ⟨RX11, "begin", "(III)Z"⟩
abbrev cX11_run : ByteArray := prog_13_method_42_code
def yX11_run : MethodName := ⟨RX11, "run", "(I)I"⟩
abbrev cX11_told : ByteArray := prog_13_method_43_code
def yX11_told : MethodName := ⟨RX11, "told", "(I)I"⟩
abbrev cX11_say : ByteArray := prog_13_method_44_code
def yX11_say : MethodName := ⟨RX11, "say", "(I)V"⟩
abbrev cX11_sayNumber : ByteArray := prog_13_method_45_code
def yX11_sayNumber : MethodName := ⟨RX11, "sayNumber", "(J)V"⟩
abbrev cX11_tell : ByteArray := prog_13_method_46_code
def yX11_tell : MethodName := ⟨RX11, "tell", "(I)I"⟩
abbrev cX11_sayCell : ByteArray := prog_13_method_47_code
def yX11_sayCell : MethodName := ⟨RX11, "sayCell", "(II)I"⟩
abbrev cX11_letter : ByteArray := prog_13_method_48_code
def yX11_letter : MethodName := ⟨RX11, "letter", "(I)I"⟩
abbrev cX11_slot : ByteArray := prog_13_method_49_code
def yX11_slot : MethodName := ⟨RX11, "slot", "(I)J"⟩
def RJx145de : String := "java/io/Serializable"
def TJx145de : u_T := fun k => match k with
  | _ => ("", "", "", false)
def tyJx145de : Nat → FieldType := fun k => match k with
  | _ => .int
theorem nmJx145de : ∀ a, a < 0 → ∀ b, b < 0 → a ≠ b → (TJx145de a).2.1 ≠ (TJx145de b).2.1 := by decide +kernel
theorem tyJx145de_ok : ∀ k, k < 0 → parseFieldDescriptor (TJx145de k).2.2.1 = some (tyJx145de k) := by decide +kernel
def RJ5 : String := "java/lang/AbstractStringBuilder"
def TJ5 : u_T := fun k => match k with
  | _ => ("", "", "", false)
def tyJ5 : Nat → FieldType := fun k => match k with
  | _ => .int
theorem nmJ5 : ∀ a, a < 0 → ∀ b, b < 0 → a ≠ b → (TJ5 a).2.1 ≠ (TJ5 b).2.1 := by decide +kernel
theorem tyJ5_ok : ∀ k, k < 0 → parseFieldDescriptor (TJ5 k).2.2.1 = some (tyJ5 k) := by decide +kernel
abbrev cJ5_init_d00df : ByteArray := prog_15_method_2_code
def yJ5_init_d00df : MethodName := ⟨RJ5, "<init>", "(I)V"⟩
abbrev cJ5_length_8abf5 : ByteArray := prog_15_method_6_code
def yJ5_length_8abf5 : MethodName := ⟨RJ5, "length", "()I"⟩
abbrev cJ5_ensureCapacityInternal_d00df : ByteArray := prog_15_method_9_code
def yJ5_ensureCapacityInternal_d00df : MethodName := ⟨RJ5, "ensureCapacityInternal", "(I)V"⟩
abbrev cJ5_newCapacity_0f7a4 : ByteArray := prog_15_method_10_code
def yJ5_newCapacity_0f7a4 : MethodName := ⟨RJ5, "newCapacity", "(I)I"⟩
abbrev cJ5_inflate_da8c8 : ByteArray := prog_15_method_11_code
def yJ5_inflate_da8c8 : MethodName := ⟨RJ5, "inflate", "()V"⟩
abbrev cJ5_setLength_d00df : ByteArray := prog_15_method_13_code
def yJ5_setLength_d00df : MethodName := ⟨RJ5, "setLength", "(I)V"⟩
abbrev cJ5_charAt_5068e : ByteArray := prog_15_method_14_code
def yJ5_charAt_5068e : MethodName := ⟨RJ5, "charAt", "(I)C"⟩
abbrev cJ5_append_3fe6f : ByteArray := prog_15_method_31_code
def yJ5_append_3fe6f : MethodName := ⟨RJ5, "append", "(C)Ljava/lang/AbstractStringBuilder;"⟩
abbrev cJ5_append_c97b9 : ByteArray := prog_15_method_32_code
def yJ5_append_c97b9 : MethodName := ⟨RJ5, "append", "(I)Ljava/lang/AbstractStringBuilder;"⟩
abbrev cJ5_isLatin1_aae02 : ByteArray := prog_15_method_68_code
def yJ5_isLatin1_aae02 : MethodName := ⟨RJ5, "isLatin1", "()Z"⟩
def RJx8e188 : String := "java/lang/Cloneable"
def TJx8e188 : u_T := fun k => match k with
  | _ => ("", "", "", false)
def tyJx8e188 : Nat → FieldType := fun k => match k with
  | _ => .int
theorem nmJx8e188 : ∀ a, a < 0 → ∀ b, b < 0 → a ≠ b → (TJx8e188 a).2.1 ≠ (TJx8e188 b).2.1 := by decide +kernel
theorem tyJx8e188_ok : ∀ k, k < 0 → parseFieldDescriptor (TJx8e188 k).2.2.1 = some (tyJx8e188 k) := by decide +kernel
def RJ6 : String := "java/lang/Integer"
def TJ6 : u_T := fun k => match k with
  | _ => ("", "", "", false)
def tyJ6 : Nat → FieldType := fun k => match k with
  | _ => .int
theorem nmJ6 : ∀ a, a < 0 → ∀ b, b < 0 → a ≠ b → (TJ6 a).2.1 ≠ (TJ6 b).2.1 := by decide +kernel
theorem tyJ6_ok : ∀ k, k < 0 → parseFieldDescriptor (TJ6 k).2.2.1 = some (tyJ6 k) := by decide +kernel
abbrev cJ6_getChars_ba4f3 : ByteArray := prog_18_method_12_code
def yJ6_getChars_ba4f3 : MethodName := ⟨RJ6, "getChars", "(II[B)I"⟩
abbrev cJ6_stringSize_0f7a4 : ByteArray := prog_18_method_13_code
def yJ6_stringSize_0f7a4 : MethodName := ⟨RJ6, "stringSize", "(I)I"⟩
def RJxab1ab : String := "java/lang/Iterable"
def TJxab1ab : u_T := fun k => match k with
  | _ => ("", "", "", false)
def tyJxab1ab : Nat → FieldType := fun k => match k with
  | _ => .int
theorem nmJxab1ab : ∀ a, a < 0 → ∀ b, b < 0 → a ≠ b → (TJxab1ab a).2.1 ≠ (TJxab1ab b).2.1 := by decide +kernel
theorem tyJxab1ab_ok : ∀ k, k < 0 → parseFieldDescriptor (TJxab1ab k).2.2.1 = some (tyJxab1ab k) := by decide +kernel
def RJ9 : String := "java/lang/Math"
def TJ9 : u_T := fun k => match k with
  | _ => ("", "", "", false)
def tyJ9 : Nat → FieldType := fun k => match k with
  | _ => .int
theorem nmJ9 : ∀ a, a < 0 → ∀ b, b < 0 → a ≠ b → (TJ9 a).2.1 ≠ (TJ9 b).2.1 := by decide +kernel
theorem tyJ9_ok : ∀ k, k < 0 → parseFieldDescriptor (TJ9 k).2.2.1 = some (tyJ9 k) := by decide +kernel
abbrev cJ9_max_7cf53 : ByteArray := prog_20_method_65_code
def yJ9_max_7cf53 : MethodName := ⟨RJ9, "max", "(II)I"⟩
abbrev cJ9_min_7cf53 : ByteArray := prog_20_method_69_code
def yJ9_min_7cf53 : MethodName := ⟨RJ9, "min", "(II)I"⟩
def RJ0 : String := "java/lang/String"
def TJ0 : u_T := fun k => match k with
  | _ => ("", "", "", false)
def tyJ0 : Nat → FieldType := fun k => match k with
  | _ => .int
theorem nmJ0 : ∀ a, a < 0 → ∀ b, b < 0 → a ≠ b → (TJ0 a).2.1 ≠ (TJ0 b).2.1 := by decide +kernel
theorem tyJ0_ok : ∀ k, k < 0 → parseFieldDescriptor (TJ0 k).2.2.1 = some (tyJ0 k) := by decide +kernel
abbrev cJ0_checkIndex_df160 : ByteArray := prog_22_method_155_code
def yJ0_checkIndex_df160 : MethodName := ⟨RJ0, "checkIndex", "(II)V"⟩
abbrev cJ0_checkBoundsOffCount_cabcc : ByteArray := prog_22_method_157_code
def yJ0_checkBoundsOffCount_cabcc : MethodName := ⟨RJ0, "checkBoundsOffCount", "(III)I"⟩
abbrev cJ0_checkBoundsBeginEnd_23922 : ByteArray := prog_22_method_158_code
def yJ0_checkBoundsBeginEnd_23922 : MethodName := ⟨RJ0, "checkBoundsBeginEnd", "(III)V"⟩
def RJ4 : String := "java/lang/StringBuilder"
def TJ4 : u_T := fun k => match k with
  | 0 => ("java/lang/AbstractStringBuilder", "value", "[B", false)
  | 1 => ("java/lang/AbstractStringBuilder", "coder", "B", false)
  | 2 => ("java/lang/AbstractStringBuilder", "maybeLatin1", "Z", false)
  | _ => ("java/lang/AbstractStringBuilder", "count", "I", false)
def tyJ4 : Nat → FieldType := fun k => match k with
  | 0 => .array .byte
  | 1 => .byte
  | 2 => .boolean
  | _ => .int
theorem nmJ4 : ∀ a, a < 4 → ∀ b, b < 4 → a ≠ b → (TJ4 a).2.1 ≠ (TJ4 b).2.1 := by decide +kernel
theorem tyJ4_ok : ∀ k, k < 4 → parseFieldDescriptor (TJ4 k).2.2.1 = some (tyJ4 k) := by decide +kernel
abbrev cJ4_init_da8c8 : ByteArray := prog_23_method_1_code
def yJ4_init_da8c8 : MethodName := ⟨RJ4, "<init>", "()V"⟩
abbrev cJ4_append_cf468 : ByteArray := prog_23_method_14_code
def yJ4_append_cf468 : MethodName := ⟨RJ4, "append", "(C)Ljava/lang/StringBuilder;"⟩
abbrev cJ4_append_bf812 : ByteArray := prog_23_method_15_code
def yJ4_append_bf812 : MethodName := ⟨RJ4, "append", "(I)Ljava/lang/StringBuilder;"⟩
abbrev cJ4_charAt_5068e : ByteArray := prog_23_method_88_code
def yJ4_charAt_5068e : MethodName := ⟨RJ4, "charAt", "(I)C"⟩
abbrev cJ4_setLength_d00df : ByteArray := prog_23_method_89_code
def yJ4_setLength_d00df : MethodName := ⟨RJ4, "setLength", "(I)V"⟩
abbrev cJ4_length_8abf5 : ByteArray := prog_23_method_93_code
def yJ4_length_8abf5 : MethodName := ⟨RJ4, "length", "()I"⟩
def RJ1 : String := "java/lang/StringLatin1"
def TJ1 : u_T := fun k => match k with
  | _ => ("", "", "", false)
def tyJ1 : Nat → FieldType := fun k => match k with
  | _ => .int
theorem nmJ1 : ∀ a, a < 0 → ∀ b, b < 0 → a ≠ b → (TJ1 a).2.1 ≠ (TJ1 b).2.1 := by decide +kernel
theorem tyJ1_ok : ∀ k, k < 0 → parseFieldDescriptor (TJ1 k).2.2.1 = some (tyJ1 k) := by decide +kernel
abbrev cJ1_canEncode_fc78d : ByteArray := prog_24_method_3_code
def yJ1_canEncode_fc78d : MethodName := ⟨RJ1, "canEncode", "(C)Z"⟩
abbrev cJ1_fillNull_b72d1 : ByteArray := prog_24_method_48_code
def yJ1_fillNull_b72d1 : MethodName := ⟨RJ1, "fillNull", "([BII)V"⟩
abbrev cJ1_inflate_0e8fd : ByteArray := prog_24_method_50_code
def yJ1_inflate_0e8fd : MethodName := ⟨RJ1, "inflate", "([BI[BII)V"⟩
def RJ2 : String := "java/lang/StringUTF16"
def TJ2 : u_T := fun k => match k with
  | _ => ("", "", "", false)
def tyJ2 : Nat → FieldType := fun k => match k with
  | _ => .int
theorem nmJ2 : ∀ a, a < 0 → ∀ b, b < 0 → a ≠ b → (TJ2 a).2.1 ≠ (TJ2 b).2.1 := by decide +kernel
theorem tyJ2_ok : ∀ k, k < 0 → parseFieldDescriptor (TJ2 k).2.2.1 = some (tyJ2 k) := by decide +kernel
abbrev cJ2_newBytesFor_77867 : ByteArray := prog_25_method_2_code
def yJ2_newBytesFor_77867 : MethodName := ⟨RJ2, "newBytesFor", "(I)[B"⟩
abbrev cJ2_newBytesLength_0f7a4 : ByteArray := prog_25_method_3_code
def yJ2_newBytesLength_0f7a4 : MethodName := ⟨RJ2, "newBytesLength", "(I)I"⟩
abbrev cJ2_putChar_b72d1 : ByteArray := prog_25_method_4_code
def yJ2_putChar_b72d1 : MethodName := ⟨RJ2, "putChar", "([BII)V"⟩
abbrev cJ2_getChar_3b067 : ByteArray := prog_25_method_5_code
def yJ2_getChar_3b067 : MethodName := ⟨RJ2, "getChar", "([BI)C"⟩
abbrev cJ2_length_9d52b : ByteArray := prog_25_method_6_code
def yJ2_length_9d52b : MethodName := ⟨RJ2, "length", "([B)I"⟩
abbrev cJ2_fillNull_b72d1 : ByteArray := prog_25_method_70_code
def yJ2_fillNull_b72d1 : MethodName := ⟨RJ2, "fillNull", "([BII)V"⟩
abbrev cJ2_putCharSB_b72d1 : ByteArray := prog_25_method_71_code
def yJ2_putCharSB_b72d1 : MethodName := ⟨RJ2, "putCharSB", "([BII)V"⟩
abbrev cJ2_getChars_46870 : ByteArray := prog_25_method_77_code
def yJ2_getChars_46870 : MethodName := ⟨RJ2, "getChars", "(III[B)I"⟩
abbrev cJ2_inflate_0e8fd : ByteArray := prog_25_method_86_code
def yJ2_inflate_0e8fd : MethodName := ⟨RJ2, "inflate", "([BI[BII)V"⟩
abbrev cJ2_getChars_ba4f3 : ByteArray := prog_25_method_89_code
def yJ2_getChars_ba4f3 : MethodName := ⟨RJ2, "getChars", "(II[B)I"⟩
abbrev cJ2_checkIndex_2214a : ByteArray := prog_25_method_91_code
def yJ2_checkIndex_2214a : MethodName := ⟨RJ2, "checkIndex", "(I[B)V"⟩
abbrev cJ2_checkBoundsBeginEnd_d044e : ByteArray := prog_25_method_93_code
def yJ2_checkBoundsBeginEnd_d044e : MethodName := ⟨RJ2, "checkBoundsBeginEnd", "(II[B)V"⟩
abbrev cJ2_checkBoundsOffCount_d044e : ByteArray := prog_25_method_94_code
def yJ2_checkBoundsOffCount_d044e : MethodName := ⟨RJ2, "checkBoundsOffCount", "(II[B)V"⟩
def RJ10 : String := "java/lang/System"
def TJ10 : u_T := fun k => match k with
  | _ => ("", "", "", false)
def tyJ10 : Nat → FieldType := fun k => match k with
  | _ => .int
theorem nmJ10 : ∀ a, a < 0 → ∀ b, b < 0 → a ≠ b → (TJ10 a).2.1 ≠ (TJ10 b).2.1 := by decide +kernel
theorem tyJ10_ok : ∀ k, k < 0 → parseFieldDescriptor (TJ10 k).2.2.1 = some (tyJ10 k) := by decide +kernel
def RJxa1e45 : String := "java/util/AbstractCollection"
def TJxa1e45 : u_T := fun k => match k with
  | _ => ("", "", "", false)
def tyJxa1e45 : Nat → FieldType := fun k => match k with
  | _ => .int
theorem nmJxa1e45 : ∀ a, a < 0 → ∀ b, b < 0 → a ≠ b → (TJxa1e45 a).2.1 ≠ (TJxa1e45 b).2.1 := by decide +kernel
theorem tyJxa1e45_ok : ∀ k, k < 0 → parseFieldDescriptor (TJxa1e45 k).2.2.1 = some (tyJxa1e45 k) := by decide +kernel
abbrev cJxa1e45_init_da8c8 : ByteArray := prog_28_method_1_code
def yJxa1e45_init_da8c8 : MethodName := ⟨RJxa1e45, "<init>", "()V"⟩
def RJxc12de : String := "java/util/AbstractList"
def TJxc12de : u_T := fun k => match k with
  | _ => ("", "", "", false)
def tyJxc12de : Nat → FieldType := fun k => match k with
  | _ => .int
theorem nmJxc12de : ∀ a, a < 0 → ∀ b, b < 0 → a ≠ b → (TJxc12de a).2.1 ≠ (TJxc12de b).2.1 := by decide +kernel
theorem tyJxc12de_ok : ∀ k, k < 0 → parseFieldDescriptor (TJxc12de k).2.2.1 = some (tyJxc12de k) := by decide +kernel
abbrev cJxc12de_init_da8c8 : ByteArray := prog_29_method_1_code
def yJxc12de_init_da8c8 : MethodName := ⟨RJxc12de, "<init>", "()V"⟩
def RJx4a65c : String := "java/util/ArrayList"
def TJx4a65c : u_T := fun k => match k with
  | 0 => ("java/util/AbstractList", "modCount", "I", false)
  | 1 => ("java/util/ArrayList", "elementData", "[Ljava/lang/Object;", false)
  | _ => ("java/util/ArrayList", "size", "I", false)
def tyJx4a65c : Nat → FieldType := fun k => match k with
  | 0 => .int
  | 1 => .array (.object "java/lang/Object")
  | _ => .int
theorem nmJx4a65c : ∀ a, a < 3 → ∀ b, b < 3 → a ≠ b → (TJx4a65c a).2.1 ≠ (TJx4a65c b).2.1 := by decide +kernel
theorem tyJx4a65c_ok : ∀ k, k < 3 → parseFieldDescriptor (TJx4a65c k).2.2.1 = some (tyJx4a65c k) := by decide +kernel
abbrev cJx4a65c_init_da8c8 : ByteArray := prog_30_method_2_code
def yJx4a65c_init_da8c8 : MethodName := ⟨RJx4a65c, "<init>", "()V"⟩
abbrev cJx4a65c_grow_92f84 : ByteArray := prog_30_method_6_code
def yJx4a65c_grow_92f84 : MethodName := ⟨RJx4a65c, "grow", "(I)[Ljava/lang/Object;"⟩
abbrev cJx4a65c_grow_d5877 : ByteArray := prog_30_method_7_code
def yJx4a65c_grow_d5877 : MethodName := ⟨RJx4a65c, "grow", "()[Ljava/lang/Object;"⟩
abbrev cJx4a65c_size_8abf5 : ByteArray := prog_30_method_8_code
def yJx4a65c_size_8abf5 : MethodName := ⟨RJx4a65c, "size", "()I"⟩
abbrev cJx4a65c_elementData_915e3 : ByteArray := prog_30_method_18_code
def yJx4a65c_elementData_915e3 : MethodName := ⟨RJx4a65c, "elementData", "(I)Ljava/lang/Object;"⟩
abbrev cJx4a65c_get_915e3 : ByteArray := prog_30_method_20_code
def yJx4a65c_get_915e3 : MethodName := ⟨RJx4a65c, "get", "(I)Ljava/lang/Object;"⟩
abbrev cJx4a65c_add_72be8 : ByteArray := prog_30_method_24_code
def yJx4a65c_add_72be8 : MethodName := ⟨RJx4a65c, "add", "(Ljava/lang/Object;[Ljava/lang/Object;I)V"⟩
abbrev cJx4a65c_add_9ea2d : ByteArray := prog_30_method_25_code
def yJx4a65c_add_9ea2d : MethodName := ⟨RJx4a65c, "add", "(Ljava/lang/Object;)Z"⟩
def RJ7 : String := "java/util/Arrays"
def TJ7 : u_T := fun k => match k with
  | _ => ("", "", "", false)
def tyJ7 : Nat → FieldType := fun k => match k with
  | _ => .int
theorem nmJ7 : ∀ a, a < 0 → ∀ b, b < 0 → a ≠ b → (TJ7 a).2.1 ≠ (TJ7 b).2.1 := by decide +kernel
theorem tyJ7_ok : ∀ k, k < 0 → parseFieldDescriptor (TJ7 k).2.2.1 = some (tyJ7 k) := by decide +kernel
abbrev cJ7_rangeCheck_23922 : ByteArray := prog_31_method_30_code
def yJ7_rangeCheck_23922 : MethodName := ⟨RJ7, "rangeCheck", "(III)V"⟩
abbrev cJ7_fill_eb02e : ByteArray := prog_31_method_110_code
def yJ7_fill_eb02e : MethodName := ⟨RJ7, "fill", "([BIIB)V"⟩
abbrev cJ7_copyOf_1904c : ByteArray := prog_31_method_119_code
def yJ7_copyOf_1904c : MethodName := ⟨RJ7, "copyOf", "([Ljava/lang/Object;I)[Ljava/lang/Object;"⟩
abbrev cJ7_copyOf_6403c : ByteArray := prog_31_method_120_code
def yJ7_copyOf_6403c : MethodName := ⟨RJ7, "copyOf", "([Ljava/lang/Object;ILjava/lang/Class;)[Ljava/lang/Object;"⟩
abbrev cJ7_copyOf_9075b : ByteArray := prog_31_method_121_code
def yJ7_copyOf_9075b : MethodName := ⟨RJ7, "copyOf", "([BI)[B"⟩
abbrev cJ7_copyOf_59c91 : ByteArray := prog_31_method_123_code
def yJ7_copyOf_59c91 : MethodName := ⟨RJ7, "copyOf", "([II)[I"⟩
abbrev cJ7_copyOf_c38d5 : ByteArray := prog_31_method_124_code
def yJ7_copyOf_c38d5 : MethodName := ⟨RJ7, "copyOf", "([JI)[J"⟩
def RJx5ef63 : String := "java/util/Collection"
def TJx5ef63 : u_T := fun k => match k with
  | _ => ("", "", "", false)
def tyJx5ef63 : Nat → FieldType := fun k => match k with
  | _ => .int
theorem nmJx5ef63 : ∀ a, a < 0 → ∀ b, b < 0 → a ≠ b → (TJx5ef63 a).2.1 ≠ (TJx5ef63 b).2.1 := by decide +kernel
theorem tyJx5ef63_ok : ∀ k, k < 0 → parseFieldDescriptor (TJx5ef63 k).2.2.1 = some (tyJx5ef63 k) := by decide +kernel
def RJxbd725 : String := "java/util/List"
def TJxbd725 : u_T := fun k => match k with
  | _ => ("", "", "", false)
def tyJxbd725 : Nat → FieldType := fun k => match k with
  | _ => .int
theorem nmJxbd725 : ∀ a, a < 0 → ∀ b, b < 0 → a ≠ b → (TJxbd725 a).2.1 ≠ (TJxbd725 b).2.1 := by decide +kernel
theorem tyJxbd725_ok : ∀ k, k < 0 → parseFieldDescriptor (TJxbd725 k).2.2.1 = some (tyJxbd725 k) := by decide +kernel
def RJ15 : String := "java/util/Objects"
def TJ15 : u_T := fun k => match k with
  | _ => ("", "", "", false)
def tyJ15 : Nat → FieldType := fun k => match k with
  | _ => .int
theorem nmJ15 : ∀ a, a < 0 → ∀ b, b < 0 → a ≠ b → (TJ15 a).2.1 ≠ (TJ15 b).2.1 := by decide +kernel
theorem tyJ15_ok : ∀ k, k < 0 → parseFieldDescriptor (TJ15 k).2.2.1 = some (tyJ15 k) := by decide +kernel
abbrev cJ15_checkIndex_7cf53 : ByteArray := prog_35_method_17_code
def yJ15_checkIndex_7cf53 : MethodName := ⟨RJ15, "checkIndex", "(II)I"⟩
def RJxf0a74 : String := "java/util/RandomAccess"
def TJxf0a74 : u_T := fun k => match k with
  | _ => ("", "", "", false)
def tyJxf0a74 : Nat → FieldType := fun k => match k with
  | _ => .int
theorem nmJxf0a74 : ∀ a, a < 0 → ∀ b, b < 0 → a ≠ b → (TJxf0a74 a).2.1 ≠ (TJxf0a74 b).2.1 := by decide +kernel
theorem tyJxf0a74_ok : ∀ k, k < 0 → parseFieldDescriptor (TJxf0a74 k).2.2.1 = some (tyJxf0a74 k) := by decide +kernel
def RJxa66e6 : String := "java/util/SequencedCollection"
def TJxa66e6 : u_T := fun k => match k with
  | _ => ("", "", "", false)
def tyJxa66e6 : Nat → FieldType := fun k => match k with
  | _ => .int
theorem nmJxa66e6 : ∀ a, a < 0 → ∀ b, b < 0 → a ≠ b → (TJxa66e6 a).2.1 ≠ (TJxa66e6 b).2.1 := by decide +kernel
theorem tyJxa66e6_ok : ∀ k, k < 0 → parseFieldDescriptor (TJxa66e6 k).2.2.1 = some (tyJxa66e6 k) := by decide +kernel
def RJ8 : String := "jdk/internal/util/ArraysSupport"
def TJ8 : u_T := fun k => match k with
  | _ => ("", "", "", false)
def tyJ8 : Nat → FieldType := fun k => match k with
  | _ => .int
theorem nmJ8 : ∀ a, a < 0 → ∀ b, b < 0 → a ≠ b → (TJ8 a).2.1 ≠ (TJ8 b).2.1 := by decide +kernel
theorem tyJ8_ok : ∀ k, k < 0 → parseFieldDescriptor (TJ8 k).2.2.1 = some (tyJ8 k) := by decide +kernel
abbrev cJ8_newLength_cabcc : ByteArray := prog_38_method_27_code
def yJ8_newLength_cabcc : MethodName := ⟨RJ8, "newLength", "(III)I"⟩
abbrev cJ8_hugeLength_7cf53 : ByteArray := prog_38_method_28_code
def yJ8_hugeLength_7cf53 : MethodName := ⟨RJ8, "hugeLength", "(II)I"⟩
def RJ3 : String := "jdk/internal/util/Preconditions"
def TJ3 : u_T := fun k => match k with
  | _ => ("", "", "", false)
def tyJ3 : Nat → FieldType := fun k => match k with
  | _ => .int
theorem nmJ3 : ∀ a, a < 0 → ∀ b, b < 0 → a ≠ b → (TJ3 a).2.1 ≠ (TJ3 b).2.1 := by decide +kernel
theorem tyJ3_ok : ∀ k, k < 0 → parseFieldDescriptor (TJ3 k).2.2.1 = some (tyJ3 k) := by decide +kernel
abbrev cJ3_checkIndex_8e157 : ByteArray := prog_39_method_11_code
def yJ3_checkIndex_8e157 : MethodName := ⟨RJ3, "checkIndex", "(IILjava/util/function/BiFunction;)I"⟩
abbrev cJ3_checkFromToIndex_8c36e : ByteArray := prog_39_method_12_code
def yJ3_checkFromToIndex_8c36e : MethodName := ⟨RJ3, "checkFromToIndex", "(IIILjava/util/function/BiFunction;)I"⟩
abbrev cJ3_checkFromIndexSize_8c36e : ByteArray := prog_39_method_13_code
def yJ3_checkFromIndexSize_8c36e : MethodName := ⟨RJ3, "checkFromIndexSize", "(IIILjava/util/function/BiFunction;)I"⟩
def RL : String := "RedoMachineLaw"
abbrev cL_tell : ByteArray := method_3_code
def yL_tell : MethodName := ⟨RL, "tell", "(LRedoMachine;I[J)I"⟩
abbrev cL_law : ByteArray := code
def yL_law : MethodName := ⟨RL, "law", "([I)Z"⟩
abbrev vwCl : List vw_C := [(RJ4, TJ4, 4), (RJx4a65c, TJx4a65c, 3), (RX0, TX0, 7), (RX1, TX1, 7), (RX2, TX2, 4), (RX3, TX3, 7), (RX4, TX4, 2), (RX5, TX5, 5), (RX6, TX6, 7), (RX7, TX7, 8), (RX8, TX8, 2), (RX10, TX10, 6), (RX11, TX11, 59)]
end
section
theorem dX0_init_0 : decode cX0_init 0 = .ok (.aload_n 0, 1) := by decide +kernel
theorem dX0_init_1 : decode cX0_init 1 = .ok (.invokespecial 3, 3) := by decide +kernel
theorem dX0_init_4 : decode cX0_init 4 = .ok (.aload_n 0, 1) := by decide +kernel
theorem dX0_init_5 : decode cX0_init 5 = .ok (.new 9, 3) := by decide +kernel
theorem dX0_init_8 : decode cX0_init 8 = .ok (.dup, 1) := by decide +kernel
theorem dX0_init_9 : decode cX0_init 9 = .ok (.invokespecial 11, 3) := by decide +kernel
theorem dX0_init_12 : decode cX0_init 12 = .ok (.putfield 12, 3) := by decide +kernel
theorem dX0_init_15 : decode cX0_init 15 = .ok (.aload_n 0, 1) := by decide +kernel
theorem dX0_init_16 : decode cX0_init 16 = .ok (.new 18, 3) := by decide +kernel
theorem dX0_init_19 : decode cX0_init 19 = .ok (.dup, 1) := by decide +kernel
theorem dX0_init_20 : decode cX0_init 20 = .ok (.invokespecial 20, 3) := by decide +kernel
theorem dX0_init_23 : decode cX0_init 23 = .ok (.putfield 21, 3) := by decide +kernel
theorem dX0_init_26 : decode cX0_init 26 = .ok (.aload_n 0, 1) := by decide +kernel
theorem dX0_init_27 : decode cX0_init 27 = .ok (.iconst (-1), 1) := by decide +kernel
theorem dX0_init_28 : decode cX0_init 28 = .ok (.putfield 25, 3) := by decide +kernel
theorem dX0_init_31 : decode cX0_init 31 = .ok (.return_, 1) := by decide +kernel
theorem dX0_start_0 : decode cX0_start 0 = .ok (.aload_n 0, 1) := by decide +kernel
theorem dX0_start_1 : decode cX0_start 1 = .ok (.getfield 12, 3) := by decide +kernel
theorem dX0_start_4 : decode cX0_start 4 = .ok (.iload_n 3, 1) := by decide +kernel
theorem dX0_start_5 : decode cX0_start 5 = .ok (.invokevirtual 29, 3) := by decide +kernel
theorem dX0_start_8 : decode cX0_start 8 = .ok (.aload_n 0, 1) := by decide +kernel
theorem dX0_start_9 : decode cX0_start 9 = .ok (.getfield 21, 3) := by decide +kernel
theorem dX0_start_12 : decode cX0_start 12 = .ok (.iload 4, 2) := by decide +kernel
theorem dX0_start_14 : decode cX0_start 14 = .ok (.invokevirtual 33, 3) := by decide +kernel
theorem dX0_start_17 : decode cX0_start 17 = .ok (.aload_n 0, 1) := by decide +kernel
theorem dX0_start_18 : decode cX0_start 18 = .ok (.getfield 12, 3) := by decide +kernel
theorem dX0_start_21 : decode cX0_start 21 = .ok (.aload_n 1, 1) := by decide +kernel
theorem dX0_start_22 : decode cX0_start 22 = .ok (.invokevirtual 34, 3) := by decide +kernel
theorem dX0_start_25 : decode cX0_start 25 = .ok (.astore 5, 2) := by decide +kernel
theorem dX0_start_27 : decode cX0_start 27 = .ok (.iconst 0, 1) := by decide +kernel
theorem dX0_start_28 : decode cX0_start 28 = .ok (.istore 6, 2) := by decide +kernel
theorem dX0_start_30 : decode cX0_start 30 = .ok (.iload 6, 2) := by decide +kernel
theorem dX0_start_32 : decode cX0_start 32 = .ok (.aload_n 2, 1) := by decide +kernel
theorem dX0_start_33 : decode cX0_start 33 = .ok (.arraylength, 1) := by decide +kernel
theorem dX0_start_34 : decode cX0_start 34 = .ok (.if_icmp .ge 25, 3) := by decide +kernel
theorem dX0_start_37 : decode cX0_start 37 = .ok (.aload_n 0, 1) := by decide +kernel
theorem dX0_start_38 : decode cX0_start 38 = .ok (.getfield 12, 3) := by decide +kernel
theorem dX0_start_41 : decode cX0_start 41 = .ok (.aload 5, 2) := by decide +kernel
theorem dX0_start_43 : decode cX0_start 43 = .ok (.iload 6, 2) := by decide +kernel
theorem dX0_start_45 : decode cX0_start 45 = .ok (.aload_n 2, 1) := by decide +kernel
theorem dX0_start_46 : decode cX0_start 46 = .ok (.iload 6, 2) := by decide +kernel
theorem dX0_start_48 : decode cX0_start 48 = .ok (.iaload, 1) := by decide +kernel
theorem dX0_start_49 : decode cX0_start 49 = .ok (.i2l, 1) := by decide +kernel
theorem dX0_start_50 : decode cX0_start 50 = .ok (.invokevirtual 38, 3) := by decide +kernel
theorem dX0_start_53 : decode cX0_start 53 = .ok (.iinc 6 1, 3) := by decide +kernel
theorem dX0_start_56 : decode cX0_start 56 = .ok (.goto (-26), 3) := by decide +kernel
theorem dX0_start_59 : decode cX0_start 59 = .ok (.aload_n 0, 1) := by decide +kernel
theorem dX0_start_60 : decode cX0_start 60 = .ok (.iconst 0, 1) := by decide +kernel
theorem dX0_start_61 : decode cX0_start 61 = .ok (.putfield 25, 3) := by decide +kernel
theorem dX0_start_64 : decode cX0_start 64 = .ok (.aload_n 0, 1) := by decide +kernel
theorem dX0_start_65 : decode cX0_start 65 = .ok (.iconst 0, 1) := by decide +kernel
theorem dX0_start_66 : decode cX0_start 66 = .ok (.putfield 42, 3) := by decide +kernel
theorem dX0_start_69 : decode cX0_start 69 = .ok (.aload_n 0, 1) := by decide +kernel
theorem dX0_start_70 : decode cX0_start 70 = .ok (.iconst 0, 1) := by decide +kernel
theorem dX0_start_71 : decode cX0_start 71 = .ok (.putfield 45, 3) := by decide +kernel
theorem dX0_start_74 : decode cX0_start 74 = .ok (.aload_n 0, 1) := by decide +kernel
theorem dX0_start_75 : decode cX0_start 75 = .ok (.aload 5, 2) := by decide +kernel
theorem dX0_start_77 : decode cX0_start 77 = .ok (.putfield 48, 3) := by decide +kernel
theorem dX0_start_80 : decode cX0_start 80 = .ok (.aload_n 0, 1) := by decide +kernel
theorem dX0_start_81 : decode cX0_start 81 = .ok (.iconst 0, 1) := by decide +kernel
theorem dX0_start_82 : decode cX0_start 82 = .ok (.putfield 52, 3) := by decide +kernel
theorem dX0_start_85 : decode cX0_start 85 = .ok (.return_, 1) := by decide +kernel
theorem dX0_advance_0 : decode cX0_advance 0 = .ok (.iload_n 1, 1) := by decide +kernel
theorem dX0_advance_1 : decode cX0_advance 1 = .ok (.iconst 1, 1) := by decide +kernel
theorem dX0_advance_2 : decode cX0_advance 2 = .ok (.if_icmp .ge 8, 3) := by decide +kernel
theorem dX0_advance_5 : decode cX0_advance 5 = .ok (.aload_n 0, 1) := by decide +kernel
theorem dX0_advance_6 : decode cX0_advance 6 = .ok (.getfield 25, 3) := by decide +kernel
theorem dX0_advance_9 : decode cX0_advance 9 = .ok (.ireturn, 1) := by decide +kernel
theorem dX0_advance_10 : decode cX0_advance 10 = .ok (.aload_n 0, 1) := by decide +kernel
theorem dX0_advance_11 : decode cX0_advance 11 = .ok (.getfield 25, 3) := by decide +kernel
theorem dX0_advance_14 : decode cX0_advance 14 = .ok (.iconst 1, 1) := by decide +kernel
theorem dX0_advance_15 : decode cX0_advance 15 = .ok (.if_icmp .ne 7, 3) := by decide +kernel
theorem dX0_advance_18 : decode cX0_advance 18 = .ok (.aload_n 0, 1) := by decide +kernel
theorem dX0_advance_19 : decode cX0_advance 19 = .ok (.invokevirtual 55, 3) := by decide +kernel
theorem dX0_advance_22 : decode cX0_advance 22 = .ok (.iconst 0, 1) := by decide +kernel
theorem dX0_advance_23 : decode cX0_advance 23 = .ok (.istore_n 2, 1) := by decide +kernel
theorem dX0_advance_24 : decode cX0_advance 24 = .ok (.iload_n 2, 1) := by decide +kernel
theorem dX0_advance_25 : decode cX0_advance 25 = .ok (.iload_n 1, 1) := by decide +kernel
theorem dX0_advance_26 : decode cX0_advance 26 = .ok (.if_icmp .ge 63, 3) := by decide +kernel
theorem dX0_advance_29 : decode cX0_advance 29 = .ok (.aload_n 0, 1) := by decide +kernel
theorem dX0_advance_30 : decode cX0_advance 30 = .ok (.getfield 25, 3) := by decide +kernel
theorem dX0_advance_33 : decode cX0_advance 33 = .ok (.ifCond .ne 56, 3) := by decide +kernel
theorem dX0_advance_36 : decode cX0_advance 36 = .ok (.aload_n 0, 1) := by decide +kernel
theorem dX0_advance_37 : decode cX0_advance 37 = .ok (.getfield 42, 3) := by decide +kernel
theorem dX0_advance_40 : decode cX0_advance 40 = .ok (.sipush 20000, 3) := by decide +kernel
theorem dX0_advance_43 : decode cX0_advance 43 = .ok (.if_icmp .ge 10, 3) := by decide +kernel
theorem dX0_advance_46 : decode cX0_advance 46 = .ok (.aload_n 0, 1) := by decide +kernel
theorem dX0_advance_47 : decode cX0_advance 47 = .ok (.getfield 48, 3) := by decide +kernel
theorem dX0_advance_50 : decode cX0_advance 50 = .ok (.ifnonnull 11, 3) := by decide +kernel
theorem dX0_advance_53 : decode cX0_advance 53 = .ok (.aload_n 0, 1) := by decide +kernel
theorem dX0_advance_54 : decode cX0_advance 54 = .ok (.iconst 3, 1) := by decide +kernel
theorem dX0_advance_55 : decode cX0_advance 55 = .ok (.putfield 25, 3) := by decide +kernel
theorem dX0_advance_58 : decode cX0_advance 58 = .ok (.goto 25, 3) := by decide +kernel
theorem dX0_advance_61 : decode cX0_advance 61 = .ok (.aload_n 0, 1) := by decide +kernel
theorem dX0_advance_62 : decode cX0_advance 62 = .ok (.dup, 1) := by decide +kernel
theorem dX0_advance_63 : decode cX0_advance 63 = .ok (.getfield 42, 3) := by decide +kernel
theorem dX0_advance_66 : decode cX0_advance 66 = .ok (.iconst 1, 1) := by decide +kernel
theorem dX0_advance_67 : decode cX0_advance 67 = .ok (.iadd, 1) := by decide +kernel
theorem dX0_advance_68 : decode cX0_advance 68 = .ok (.putfield 42, 3) := by decide +kernel
theorem dX0_advance_71 : decode cX0_advance 71 = .ok (.aload_n 0, 1) := by decide +kernel
theorem dX0_advance_72 : decode cX0_advance 72 = .ok (.aload_n 0, 1) := by decide +kernel
theorem dX0_advance_73 : decode cX0_advance 73 = .ok (.aload_n 0, 1) := by decide +kernel
theorem dX0_advance_74 : decode cX0_advance 74 = .ok (.getfield 48, 3) := by decide +kernel
theorem dX0_advance_77 : decode cX0_advance 77 = .ok (.invokevirtual 58, 3) := by decide +kernel
theorem dX0_advance_80 : decode cX0_advance 80 = .ok (.invokevirtual 62, 3) := by decide +kernel
theorem dX0_advance_83 : decode cX0_advance 83 = .ok (.iinc 2 1, 3) := by decide +kernel
theorem dX0_advance_86 : decode cX0_advance 86 = .ok (.goto (-62), 3) := by decide +kernel
theorem dX0_advance_89 : decode cX0_advance 89 = .ok (.aload_n 0, 1) := by decide +kernel
theorem dX0_advance_90 : decode cX0_advance 90 = .ok (.getfield 25, 3) := by decide +kernel
theorem dX0_advance_93 : decode cX0_advance 93 = .ok (.ireturn, 1) := by decide +kernel
theorem dX0_figure_0 : decode cX0_figure 0 = .ok (.iload_n 1, 1) := by decide +kernel
theorem dX0_figure_1 : decode cX0_figure 1 = .ok (.tableswitch 114 0 8 #[51, 56, 61, 69, 77, 85, 93, 98, 106], 51) := by decide +kernel
theorem dX0_figure_52 : decode cX0_figure 52 = .ok (.aload_n 0, 1) := by decide +kernel
theorem dX0_figure_53 : decode cX0_figure 53 = .ok (.getfield 25, 3) := by decide +kernel
theorem dX0_figure_56 : decode cX0_figure 56 = .ok (.ireturn, 1) := by decide +kernel
theorem dX0_figure_57 : decode cX0_figure 57 = .ok (.aload_n 0, 1) := by decide +kernel
theorem dX0_figure_58 : decode cX0_figure 58 = .ok (.getfield 42, 3) := by decide +kernel
theorem dX0_figure_61 : decode cX0_figure 61 = .ok (.ireturn, 1) := by decide +kernel
theorem dX0_figure_62 : decode cX0_figure 62 = .ok (.aload_n 0, 1) := by decide +kernel
theorem dX0_figure_63 : decode cX0_figure 63 = .ok (.getfield 12, 3) := by decide +kernel
theorem dX0_figure_66 : decode cX0_figure 66 = .ok (.invokevirtual 65, 3) := by decide +kernel
theorem dX0_figure_69 : decode cX0_figure 69 = .ok (.ireturn, 1) := by decide +kernel
theorem dX0_figure_70 : decode cX0_figure 70 = .ok (.aload_n 0, 1) := by decide +kernel
theorem dX0_figure_71 : decode cX0_figure 71 = .ok (.getfield 12, 3) := by decide +kernel
theorem dX0_figure_74 : decode cX0_figure 74 = .ok (.getfield 69, 3) := by decide +kernel
theorem dX0_figure_77 : decode cX0_figure 77 = .ok (.ireturn, 1) := by decide +kernel
theorem dX0_figure_78 : decode cX0_figure 78 = .ok (.aload_n 0, 1) := by decide +kernel
theorem dX0_figure_79 : decode cX0_figure 79 = .ok (.getfield 21, 3) := by decide +kernel
theorem dX0_figure_82 : decode cX0_figure 82 = .ok (.invokevirtual 72, 3) := by decide +kernel
theorem dX0_figure_85 : decode cX0_figure 85 = .ok (.ireturn, 1) := by decide +kernel
theorem dX0_figure_86 : decode cX0_figure 86 = .ok (.aload_n 0, 1) := by decide +kernel
theorem dX0_figure_87 : decode cX0_figure 87 = .ok (.getfield 21, 3) := by decide +kernel
theorem dX0_figure_90 : decode cX0_figure 90 = .ok (.getfield 75, 3) := by decide +kernel
theorem dX0_figure_93 : decode cX0_figure 93 = .ok (.ireturn, 1) := by decide +kernel
theorem dX0_figure_94 : decode cX0_figure 94 = .ok (.aload_n 0, 1) := by decide +kernel
theorem dX0_figure_95 : decode cX0_figure 95 = .ok (.getfield 45, 3) := by decide +kernel
theorem dX0_figure_98 : decode cX0_figure 98 = .ok (.ireturn, 1) := by decide +kernel
theorem dX0_figure_99 : decode cX0_figure 99 = .ok (.aload_n 0, 1) := by decide +kernel
theorem dX0_figure_100 : decode cX0_figure 100 = .ok (.getfield 12, 3) := by decide +kernel
theorem dX0_figure_103 : decode cX0_figure 103 = .ok (.getfield 76, 3) := by decide +kernel
theorem dX0_figure_106 : decode cX0_figure 106 = .ok (.ireturn, 1) := by decide +kernel
theorem dX0_figure_107 : decode cX0_figure 107 = .ok (.aload_n 0, 1) := by decide +kernel
theorem dX0_figure_108 : decode cX0_figure 108 = .ok (.getfield 12, 3) := by decide +kernel
theorem dX0_figure_111 : decode cX0_figure 111 = .ok (.getfield 79, 3) := by decide +kernel
theorem dX0_figure_114 : decode cX0_figure 114 = .ok (.ireturn, 1) := by decide +kernel
theorem dX0_figure_115 : decode cX0_figure 115 = .ok (.iconst (-1), 1) := by decide +kernel
theorem dX0_figure_116 : decode cX0_figure 116 = .ok (.ireturn, 1) := by decide +kernel
theorem dX0_hasOut_0 : decode cX0_hasOut 0 = .ok (.aload_n 0, 1) := by decide +kernel
theorem dX0_hasOut_1 : decode cX0_hasOut 1 = .ok (.getfield 25, 3) := by decide +kernel
theorem dX0_hasOut_4 : decode cX0_hasOut 4 = .ok (.iconst 1, 1) := by decide +kernel
theorem dX0_hasOut_5 : decode cX0_hasOut 5 = .ok (.if_icmp .ne 32, 3) := by decide +kernel
theorem dX0_hasOut_8 : decode cX0_hasOut 8 = .ok (.aload_n 0, 1) := by decide +kernel
theorem dX0_hasOut_9 : decode cX0_hasOut 9 = .ok (.getfield 48, 3) := by decide +kernel
theorem dX0_hasOut_12 : decode cX0_hasOut 12 = .ok (.ifnull 25, 3) := by decide +kernel
theorem dX0_hasOut_15 : decode cX0_hasOut 15 = .ok (.iload_n 1, 1) := by decide +kernel
theorem dX0_hasOut_16 : decode cX0_hasOut 16 = .ok (.aload_n 0, 1) := by decide +kernel
theorem dX0_hasOut_17 : decode cX0_hasOut 17 = .ok (.getfield 48, 3) := by decide +kernel
theorem dX0_hasOut_20 : decode cX0_hasOut 20 = .ok (.getfield 82, 3) := by decide +kernel
theorem dX0_hasOut_23 : decode cX0_hasOut 23 = .ok (.getfield 88, 3) := by decide +kernel
theorem dX0_hasOut_26 : decode cX0_hasOut 26 = .ok (.arraylength, 1) := by decide +kernel
theorem dX0_hasOut_27 : decode cX0_hasOut 27 = .ok (.invokestatic 94, 3) := by decide +kernel
theorem dX0_hasOut_30 : decode cX0_hasOut 30 = .ok (.ifCond .eq 7, 3) := by decide +kernel
theorem dX0_hasOut_33 : decode cX0_hasOut 33 = .ok (.iconst 1, 1) := by decide +kernel
theorem dX0_hasOut_34 : decode cX0_hasOut 34 = .ok (.goto 4, 3) := by decide +kernel
theorem dX0_hasOut_37 : decode cX0_hasOut 37 = .ok (.iconst 0, 1) := by decide +kernel
theorem dX0_hasOut_38 : decode cX0_hasOut 38 = .ok (.ireturn, 1) := by decide +kernel
theorem dX0_outValue_0 : decode cX0_outValue 0 = .ok (.aload_n 0, 1) := by decide +kernel
theorem dX0_outValue_1 : decode cX0_outValue 1 = .ok (.iload_n 1, 1) := by decide +kernel
theorem dX0_outValue_2 : decode cX0_outValue 2 = .ok (.invokevirtual 98, 3) := by decide +kernel
theorem dX0_outValue_5 : decode cX0_outValue 5 = .ok (.ifCond .eq 29, 3) := by decide +kernel
theorem dX0_outValue_8 : decode cX0_outValue 8 = .ok (.aload_n 0, 1) := by decide +kernel
theorem dX0_outValue_9 : decode cX0_outValue 9 = .ok (.getfield 12, 3) := by decide +kernel
theorem dX0_outValue_12 : decode cX0_outValue 12 = .ok (.aload_n 0, 1) := by decide +kernel
theorem dX0_outValue_13 : decode cX0_outValue 13 = .ok (.getfield 48, 3) := by decide +kernel
theorem dX0_outValue_16 : decode cX0_outValue 16 = .ok (.aload_n 0, 1) := by decide +kernel
theorem dX0_outValue_17 : decode cX0_outValue 17 = .ok (.getfield 48, 3) := by decide +kernel
theorem dX0_outValue_20 : decode cX0_outValue 20 = .ok (.getfield 82, 3) := by decide +kernel
theorem dX0_outValue_23 : decode cX0_outValue 23 = .ok (.getfield 88, 3) := by decide +kernel
theorem dX0_outValue_26 : decode cX0_outValue 26 = .ok (.iload_n 1, 1) := by decide +kernel
theorem dX0_outValue_27 : decode cX0_outValue 27 = .ok (.iaload, 1) := by decide +kernel
theorem dX0_outValue_28 : decode cX0_outValue 28 = .ok (.invokevirtual 102, 3) := by decide +kernel
theorem dX0_outValue_31 : decode cX0_outValue 31 = .ok (.goto 4, 3) := by decide +kernel
theorem dX0_outValue_34 : decode cX0_outValue 34 = .ok (.lconst 0, 1) := by decide +kernel
theorem dX0_outValue_35 : decode cX0_outValue 35 = .ok (.lreturn, 1) := by decide +kernel
theorem dX0_slotSeen_0 : decode cX0_slotSeen 0 = .ok (.aload_n 0, 1) := by decide +kernel
theorem dX0_slotSeen_1 : decode cX0_slotSeen 1 = .ok (.getfield 25, 3) := by decide +kernel
theorem dX0_slotSeen_4 : decode cX0_slotSeen 4 = .ok (.ifCond .eq 11, 3) := by decide +kernel
theorem dX0_slotSeen_7 : decode cX0_slotSeen 7 = .ok (.aload_n 0, 1) := by decide +kernel
theorem dX0_slotSeen_8 : decode cX0_slotSeen 8 = .ok (.getfield 25, 3) := by decide +kernel
theorem dX0_slotSeen_11 : decode cX0_slotSeen 11 = .ok (.iconst 1, 1) := by decide +kernel
theorem dX0_slotSeen_12 : decode cX0_slotSeen 12 = .ok (.if_icmp .ne 7, 3) := by decide +kernel
theorem dX0_slotSeen_15 : decode cX0_slotSeen 15 = .ok (.iconst 1, 1) := by decide +kernel
theorem dX0_slotSeen_16 : decode cX0_slotSeen 16 = .ok (.goto 4, 3) := by decide +kernel
theorem dX0_slotSeen_19 : decode cX0_slotSeen 19 = .ok (.iconst 0, 1) := by decide +kernel
theorem dX0_slotSeen_20 : decode cX0_slotSeen 20 = .ok (.istore_n 2, 1) := by decide +kernel
theorem dX0_slotSeen_21 : decode cX0_slotSeen 21 = .ok (.iload_n 2, 1) := by decide +kernel
theorem dX0_slotSeen_22 : decode cX0_slotSeen 22 = .ok (.ifCond .eq 27, 3) := by decide +kernel
theorem dX0_slotSeen_25 : decode cX0_slotSeen 25 = .ok (.aload_n 0, 1) := by decide +kernel
theorem dX0_slotSeen_26 : decode cX0_slotSeen 26 = .ok (.getfield 48, 3) := by decide +kernel
theorem dX0_slotSeen_29 : decode cX0_slotSeen 29 = .ok (.ifnull 20, 3) := by decide +kernel
theorem dX0_slotSeen_32 : decode cX0_slotSeen 32 = .ok (.iload_n 1, 1) := by decide +kernel
theorem dX0_slotSeen_33 : decode cX0_slotSeen 33 = .ok (.aload_n 0, 1) := by decide +kernel
theorem dX0_slotSeen_34 : decode cX0_slotSeen 34 = .ok (.getfield 48, 3) := by decide +kernel
theorem dX0_slotSeen_37 : decode cX0_slotSeen 37 = .ok (.getfield 82, 3) := by decide +kernel
theorem dX0_slotSeen_40 : decode cX0_slotSeen 40 = .ok (.getfield 106, 3) := by decide +kernel
theorem dX0_slotSeen_43 : decode cX0_slotSeen 43 = .ok (.invokestatic 94, 3) := by decide +kernel
theorem dX0_slotSeen_46 : decode cX0_slotSeen 46 = .ok (.ifCond .ne 7, 3) := by decide +kernel
theorem dX0_slotSeen_49 : decode cX0_slotSeen 49 = .ok (.ldc2_w 109, 3) := by decide +kernel
theorem dX0_slotSeen_52 : decode cX0_slotSeen 52 = .ok (.lreturn, 1) := by decide +kernel
theorem dX0_slotSeen_53 : decode cX0_slotSeen 53 = .ok (.aload_n 0, 1) := by decide +kernel
theorem dX0_slotSeen_54 : decode cX0_slotSeen 54 = .ok (.getfield 12, 3) := by decide +kernel
theorem dX0_slotSeen_57 : decode cX0_slotSeen 57 = .ok (.aload_n 0, 1) := by decide +kernel
theorem dX0_slotSeen_58 : decode cX0_slotSeen 58 = .ok (.getfield 48, 3) := by decide +kernel
theorem dX0_slotSeen_61 : decode cX0_slotSeen 61 = .ok (.iload_n 1, 1) := by decide +kernel
theorem dX0_slotSeen_62 : decode cX0_slotSeen 62 = .ok (.invokevirtual 102, 3) := by decide +kernel
theorem dX0_slotSeen_65 : decode cX0_slotSeen 65 = .ok (.invokestatic 111, 3) := by decide +kernel
theorem dX0_slotSeen_68 : decode cX0_slotSeen 68 = .ok (.lreturn, 1) := by decide +kernel
theorem dX0_step_0 : decode cX0_step 0 = .ok (.aload_n 1, 1) := by decide +kernel
theorem dX0_step_1 : decode cX0_step 1 = .ok (.getfield 82, 3) := by decide +kernel
theorem dX0_step_4 : decode cX0_step 4 = .ok (.aload_n 0, 1) := by decide +kernel
theorem dX0_step_5 : decode cX0_step 5 = .ok (.getfield 52, 3) := by decide +kernel
theorem dX0_step_8 : decode cX0_step 8 = .ok (.invokevirtual 117, 3) := by decide +kernel
theorem dX0_step_11 : decode cX0_step 11 = .ok (.astore_n 2, 1) := by decide +kernel
theorem dX0_step_12 : decode cX0_step 12 = .ok (.aload_n 2, 1) := by decide +kernel
theorem dX0_step_13 : decode cX0_step 13 = .ok (.ifnonnull 6, 3) := by decide +kernel
theorem dX0_step_16 : decode cX0_step 16 = .ok (.bipush 7, 2) := by decide +kernel
theorem dX0_step_18 : decode cX0_step 18 = .ok (.ireturn, 1) := by decide +kernel
theorem dX0_step_19 : decode cX0_step 19 = .ok (.aload_n 0, 1) := by decide +kernel
theorem dX0_step_20 : decode cX0_step 20 = .ok (.dup, 1) := by decide +kernel
theorem dX0_step_21 : decode cX0_step 21 = .ok (.getfield 52, 3) := by decide +kernel
theorem dX0_step_24 : decode cX0_step 24 = .ok (.iconst 1, 1) := by decide +kernel
theorem dX0_step_25 : decode cX0_step 25 = .ok (.iadd, 1) := by decide +kernel
theorem dX0_step_26 : decode cX0_step 26 = .ok (.putfield 52, 3) := by decide +kernel
theorem dX0_step_29 : decode cX0_step 29 = .ok (.aload_n 2, 1) := by decide +kernel
theorem dX0_step_30 : decode cX0_step 30 = .ok (.getfield 121, 3) := by decide +kernel
theorem dX0_step_33 : decode cX0_step 33 = .ok (.tableswitch 292 0 14 #[75, 90, 112, 119, 126, 158, 165, 172, 181, 216, 226, 233, 251, 269, 286], 75) := by decide +kernel
theorem dX0_step_108 : decode cX0_step 108 = .ok (.aload_n 0, 1) := by decide +kernel
theorem dX0_step_109 : decode cX0_step 109 = .ok (.aload_n 1, 1) := by decide +kernel
theorem dX0_step_110 : decode cX0_step 110 = .ok (.aload_n 2, 1) := by decide +kernel
theorem dX0_step_111 : decode cX0_step 111 = .ok (.getfield 126, 3) := by decide +kernel
theorem dX0_step_114 : decode cX0_step 114 = .ok (.aload_n 2, 1) := by decide +kernel
theorem dX0_step_115 : decode cX0_step 115 = .ok (.getfield 129, 3) := by decide +kernel
theorem dX0_step_118 : decode cX0_step 118 = .ok (.i2l, 1) := by decide +kernel
theorem dX0_step_119 : decode cX0_step 119 = .ok (.invokevirtual 132, 3) := by decide +kernel
theorem dX0_step_122 : decode cX0_step 122 = .ok (.ireturn, 1) := by decide +kernel
theorem dX0_step_123 : decode cX0_step 123 = .ok (.aload_n 0, 1) := by decide +kernel
theorem dX0_step_124 : decode cX0_step 124 = .ok (.aload_n 1, 1) := by decide +kernel
theorem dX0_step_125 : decode cX0_step 125 = .ok (.aload_n 2, 1) := by decide +kernel
theorem dX0_step_126 : decode cX0_step 126 = .ok (.getfield 126, 3) := by decide +kernel
theorem dX0_step_129 : decode cX0_step 129 = .ok (.aload_n 0, 1) := by decide +kernel
theorem dX0_step_130 : decode cX0_step 130 = .ok (.getfield 12, 3) := by decide +kernel
theorem dX0_step_133 : decode cX0_step 133 = .ok (.aload_n 1, 1) := by decide +kernel
theorem dX0_step_134 : decode cX0_step 134 = .ok (.aload_n 2, 1) := by decide +kernel
theorem dX0_step_135 : decode cX0_step 135 = .ok (.getfield 129, 3) := by decide +kernel
theorem dX0_step_138 : decode cX0_step 138 = .ok (.invokevirtual 102, 3) := by decide +kernel
theorem dX0_step_141 : decode cX0_step 141 = .ok (.invokevirtual 132, 3) := by decide +kernel
theorem dX0_step_144 : decode cX0_step 144 = .ok (.ireturn, 1) := by decide +kernel
theorem dX0_step_145 : decode cX0_step 145 = .ok (.aload_n 0, 1) := by decide +kernel
theorem dX0_step_146 : decode cX0_step 146 = .ok (.aload_n 1, 1) := by decide +kernel
theorem dX0_step_147 : decode cX0_step 147 = .ok (.aload_n 2, 1) := by decide +kernel
theorem dX0_step_148 : decode cX0_step 148 = .ok (.invokevirtual 136, 3) := by decide +kernel
theorem dX0_step_151 : decode cX0_step 151 = .ok (.ireturn, 1) := by decide +kernel
theorem dX0_step_152 : decode cX0_step 152 = .ok (.aload_n 0, 1) := by decide +kernel
theorem dX0_step_153 : decode cX0_step 153 = .ok (.aload_n 1, 1) := by decide +kernel
theorem dX0_step_154 : decode cX0_step 154 = .ok (.aload_n 2, 1) := by decide +kernel
theorem dX0_step_155 : decode cX0_step 155 = .ok (.invokevirtual 140, 3) := by decide +kernel
theorem dX0_step_158 : decode cX0_step 158 = .ok (.ireturn, 1) := by decide +kernel
theorem dX0_step_159 : decode cX0_step 159 = .ok (.aload_n 0, 1) := by decide +kernel
theorem dX0_step_160 : decode cX0_step 160 = .ok (.getfield 21, 3) := by decide +kernel
theorem dX0_step_163 : decode cX0_step 163 = .ok (.aload_n 0, 1) := by decide +kernel
theorem dX0_step_164 : decode cX0_step 164 = .ok (.getfield 12, 3) := by decide +kernel
theorem dX0_step_167 : decode cX0_step 167 = .ok (.aload_n 1, 1) := by decide +kernel
theorem dX0_step_168 : decode cX0_step 168 = .ok (.aload_n 2, 1) := by decide +kernel
theorem dX0_step_169 : decode cX0_step 169 = .ok (.getfield 126, 3) := by decide +kernel
theorem dX0_step_172 : decode cX0_step 172 = .ok (.invokevirtual 102, 3) := by decide +kernel
theorem dX0_step_175 : decode cX0_step 175 = .ok (.aload_n 0, 1) := by decide +kernel
theorem dX0_step_176 : decode cX0_step 176 = .ok (.getfield 12, 3) := by decide +kernel
theorem dX0_step_179 : decode cX0_step 179 = .ok (.aload_n 1, 1) := by decide +kernel
theorem dX0_step_180 : decode cX0_step 180 = .ok (.aload_n 2, 1) := by decide +kernel
theorem dX0_step_181 : decode cX0_step 181 = .ok (.getfield 129, 3) := by decide +kernel
theorem dX0_step_184 : decode cX0_step 184 = .ok (.invokevirtual 102, 3) := by decide +kernel
theorem dX0_step_187 : decode cX0_step 187 = .ok (.invokevirtual 143, 3) := by decide +kernel
theorem dX0_step_190 : decode cX0_step 190 = .ok (.ireturn, 1) := by decide +kernel
theorem dX0_step_191 : decode cX0_step 191 = .ok (.aload_n 0, 1) := by decide +kernel
theorem dX0_step_192 : decode cX0_step 192 = .ok (.aload_n 1, 1) := by decide +kernel
theorem dX0_step_193 : decode cX0_step 193 = .ok (.aload_n 2, 1) := by decide +kernel
theorem dX0_step_194 : decode cX0_step 194 = .ok (.invokevirtual 147, 3) := by decide +kernel
theorem dX0_step_197 : decode cX0_step 197 = .ok (.ireturn, 1) := by decide +kernel
theorem dX0_step_198 : decode cX0_step 198 = .ok (.aload_n 0, 1) := by decide +kernel
theorem dX0_step_199 : decode cX0_step 199 = .ok (.aload_n 1, 1) := by decide +kernel
theorem dX0_step_200 : decode cX0_step 200 = .ok (.aload_n 2, 1) := by decide +kernel
theorem dX0_step_201 : decode cX0_step 201 = .ok (.invokevirtual 150, 3) := by decide +kernel
theorem dX0_step_204 : decode cX0_step 204 = .ok (.ireturn, 1) := by decide +kernel
theorem dX0_step_205 : decode cX0_step 205 = .ok (.aload_n 0, 1) := by decide +kernel
theorem dX0_step_206 : decode cX0_step 206 = .ok (.aload_n 2, 1) := by decide +kernel
theorem dX0_step_207 : decode cX0_step 207 = .ok (.getfield 126, 3) := by decide +kernel
theorem dX0_step_210 : decode cX0_step 210 = .ok (.invokevirtual 152, 3) := by decide +kernel
theorem dX0_step_213 : decode cX0_step 213 = .ok (.ireturn, 1) := by decide +kernel
theorem dX0_step_214 : decode cX0_step 214 = .ok (.aload_n 0, 1) := by decide +kernel
theorem dX0_step_215 : decode cX0_step 215 = .ok (.getfield 12, 3) := by decide +kernel
theorem dX0_step_218 : decode cX0_step 218 = .ok (.aload_n 1, 1) := by decide +kernel
theorem dX0_step_219 : decode cX0_step 219 = .ok (.aload_n 2, 1) := by decide +kernel
theorem dX0_step_220 : decode cX0_step 220 = .ok (.getfield 126, 3) := by decide +kernel
theorem dX0_step_223 : decode cX0_step 223 = .ok (.invokevirtual 102, 3) := by decide +kernel
theorem dX0_step_226 : decode cX0_step 226 = .ok (.aload_n 2, 1) := by decide +kernel
theorem dX0_step_227 : decode cX0_step 227 = .ok (.getfield 129, 3) := by decide +kernel
theorem dX0_step_230 : decode cX0_step 230 = .ok (.invokestatic 156, 3) := by decide +kernel
theorem dX0_step_233 : decode cX0_step 233 = .ok (.ifCond .eq 7, 3) := by decide +kernel
theorem dX0_step_236 : decode cX0_step 236 = .ok (.iconst 0, 1) := by decide +kernel
theorem dX0_step_237 : decode cX0_step 237 = .ok (.goto 11, 3) := by decide +kernel
theorem dX0_step_240 : decode cX0_step 240 = .ok (.aload_n 0, 1) := by decide +kernel
theorem dX0_step_241 : decode cX0_step 241 = .ok (.aload_n 2, 1) := by decide +kernel
theorem dX0_step_242 : decode cX0_step 242 = .ok (.getfield 160, 3) := by decide +kernel
theorem dX0_step_245 : decode cX0_step 245 = .ok (.invokevirtual 152, 3) := by decide +kernel
theorem dX0_step_248 : decode cX0_step 248 = .ok (.ireturn, 1) := by decide +kernel
theorem dX0_step_249 : decode cX0_step 249 = .ok (.aload_n 0, 1) := by decide +kernel
theorem dX0_step_250 : decode cX0_step 250 = .ok (.aload_n 1, 1) := by decide +kernel
theorem dX0_step_251 : decode cX0_step 251 = .ok (.aload_n 2, 1) := by decide +kernel
theorem dX0_step_252 : decode cX0_step 252 = .ok (.getfield 126, 3) := by decide +kernel
theorem dX0_step_255 : decode cX0_step 255 = .ok (.invokevirtual 163, 3) := by decide +kernel
theorem dX0_step_258 : decode cX0_step 258 = .ok (.ireturn, 1) := by decide +kernel
theorem dX0_step_259 : decode cX0_step 259 = .ok (.aload_n 0, 1) := by decide +kernel
theorem dX0_step_260 : decode cX0_step 260 = .ok (.aload_n 1, 1) := by decide +kernel
theorem dX0_step_261 : decode cX0_step 261 = .ok (.aload_n 2, 1) := by decide +kernel
theorem dX0_step_262 : decode cX0_step 262 = .ok (.invokevirtual 167, 3) := by decide +kernel
theorem dX0_step_265 : decode cX0_step 265 = .ok (.ireturn, 1) := by decide +kernel
theorem dX0_step_266 : decode cX0_step 266 = .ok (.aload_n 0, 1) := by decide +kernel
theorem dX0_step_267 : decode cX0_step 267 = .ok (.aload_n 1, 1) := by decide +kernel
theorem dX0_step_268 : decode cX0_step 268 = .ok (.aload_n 2, 1) := by decide +kernel
theorem dX0_step_269 : decode cX0_step 269 = .ok (.getfield 126, 3) := by decide +kernel
theorem dX0_step_272 : decode cX0_step 272 = .ok (.aload_n 0, 1) := by decide +kernel
theorem dX0_step_273 : decode cX0_step 273 = .ok (.getfield 12, 3) := by decide +kernel
theorem dX0_step_276 : decode cX0_step 276 = .ok (.getfield 76, 3) := by decide +kernel
theorem dX0_step_279 : decode cX0_step 279 = .ok (.i2l, 1) := by decide +kernel
theorem dX0_step_280 : decode cX0_step 280 = .ok (.invokevirtual 132, 3) := by decide +kernel
theorem dX0_step_283 : decode cX0_step 283 = .ok (.ireturn, 1) := by decide +kernel
theorem dX0_step_284 : decode cX0_step 284 = .ok (.aload_n 0, 1) := by decide +kernel
theorem dX0_step_285 : decode cX0_step 285 = .ok (.aload_n 1, 1) := by decide +kernel
theorem dX0_step_286 : decode cX0_step 286 = .ok (.aload_n 0, 1) := by decide +kernel
theorem dX0_step_287 : decode cX0_step 287 = .ok (.getfield 12, 3) := by decide +kernel
theorem dX0_step_290 : decode cX0_step 290 = .ok (.aload_n 1, 1) := by decide +kernel
theorem dX0_step_291 : decode cX0_step 291 = .ok (.aload_n 2, 1) := by decide +kernel
theorem dX0_step_292 : decode cX0_step 292 = .ok (.getfield 126, 3) := by decide +kernel
theorem dX0_step_295 : decode cX0_step 295 = .ok (.invokevirtual 102, 3) := by decide +kernel
theorem dX0_step_298 : decode cX0_step 298 = .ok (.invokevirtual 170, 3) := by decide +kernel
theorem dX0_step_301 : decode cX0_step 301 = .ok (.ireturn, 1) := by decide +kernel
theorem dX0_step_302 : decode cX0_step 302 = .ok (.aload_n 0, 1) := by decide +kernel
theorem dX0_step_303 : decode cX0_step 303 = .ok (.aload_n 0, 1) := by decide +kernel
theorem dX0_step_304 : decode cX0_step 304 = .ok (.getfield 12, 3) := by decide +kernel
theorem dX0_step_307 : decode cX0_step 307 = .ok (.aload_n 1, 1) := by decide +kernel
theorem dX0_step_308 : decode cX0_step 308 = .ok (.aload_n 2, 1) := by decide +kernel
theorem dX0_step_309 : decode cX0_step 309 = .ok (.getfield 126, 3) := by decide +kernel
theorem dX0_step_312 : decode cX0_step 312 = .ok (.invokevirtual 102, 3) := by decide +kernel
theorem dX0_step_315 : decode cX0_step 315 = .ok (.invokevirtual 174, 3) := by decide +kernel
theorem dX0_step_318 : decode cX0_step 318 = .ok (.ireturn, 1) := by decide +kernel
theorem dX0_step_319 : decode cX0_step 319 = .ok (.aload_n 0, 1) := by decide +kernel
theorem dX0_step_320 : decode cX0_step 320 = .ok (.aload_n 1, 1) := by decide +kernel
theorem dX0_step_321 : decode cX0_step 321 = .ok (.invokevirtual 178, 3) := by decide +kernel
theorem dX0_step_324 : decode cX0_step 324 = .ok (.ireturn, 1) := by decide +kernel
theorem dX0_step_325 : decode cX0_step 325 = .ok (.bipush 7, 2) := by decide +kernel
theorem dX0_step_327 : decode cX0_step 327 = .ok (.ireturn, 1) := by decide +kernel
theorem dX0_settle_0 : decode cX0_settle 0 = .ok (.iload_n 1, 1) := by decide +kernel
theorem dX0_settle_1 : decode cX0_settle 1 = .ok (.bipush 7, 2) := by decide +kernel
theorem dX0_settle_3 : decode cX0_settle 3 = .ok (.if_icmp .ne 10, 3) := by decide +kernel
theorem dX0_settle_6 : decode cX0_settle 6 = .ok (.aload_n 0, 1) := by decide +kernel
theorem dX0_settle_7 : decode cX0_settle 7 = .ok (.invokevirtual 55, 3) := by decide +kernel
theorem dX0_settle_10 : decode cX0_settle 10 = .ok (.goto 8, 3) := by decide +kernel
theorem dX0_settle_13 : decode cX0_settle 13 = .ok (.aload_n 0, 1) := by decide +kernel
theorem dX0_settle_14 : decode cX0_settle 14 = .ok (.iload_n 1, 1) := by decide +kernel
theorem dX0_settle_15 : decode cX0_settle 15 = .ok (.putfield 25, 3) := by decide +kernel
theorem dX0_settle_18 : decode cX0_settle 18 = .ok (.return_, 1) := by decide +kernel
theorem dX0_become_0 : decode cX0_become 0 = .ok (.aload_n 0, 1) := by decide +kernel
theorem dX0_become_1 : decode cX0_become 1 = .ok (.getfield 12, 3) := by decide +kernel
theorem dX0_become_4 : decode cX0_become 4 = .ok (.aload_n 1, 1) := by decide +kernel
theorem dX0_become_5 : decode cX0_become 5 = .ok (.iload_n 2, 1) := by decide +kernel
theorem dX0_become_6 : decode cX0_become 6 = .ok (.lload_n 3, 1) := by decide +kernel
theorem dX0_become_7 : decode cX0_become 7 = .ok (.invokevirtual 38, 3) := by decide +kernel
theorem dX0_become_10 : decode cX0_become 10 = .ok (.iconst 0, 1) := by decide +kernel
theorem dX0_become_11 : decode cX0_become 11 = .ok (.ireturn, 1) := by decide +kernel
theorem dX0_go_0 : decode cX0_go 0 = .ok (.aload_n 0, 1) := by decide +kernel
theorem dX0_go_1 : decode cX0_go 1 = .ok (.iload_n 1, 1) := by decide +kernel
theorem dX0_go_2 : decode cX0_go 2 = .ok (.putfield 52, 3) := by decide +kernel
theorem dX0_go_5 : decode cX0_go 5 = .ok (.iconst 0, 1) := by decide +kernel
theorem dX0_go_6 : decode cX0_go 6 = .ok (.ireturn, 1) := by decide +kernel
theorem dX0_make_0 : decode cX0_make 0 = .ok (.aload_n 0, 1) := by decide +kernel
theorem dX0_make_1 : decode cX0_make 1 = .ok (.getfield 21, 3) := by decide +kernel
theorem dX0_make_4 : decode cX0_make 4 = .ok (.aload_n 2, 1) := by decide +kernel
theorem dX0_make_5 : decode cX0_make 5 = .ok (.getfield 181, 3) := by decide +kernel
theorem dX0_make_8 : decode cX0_make 8 = .ok (.arraylength, 1) := by decide +kernel
theorem dX0_make_9 : decode cX0_make 9 = .ok (.invokevirtual 184, 3) := by decide +kernel
theorem dX0_make_12 : decode cX0_make 12 = .ok (.ifCond .ne 5, 3) := by decide +kernel
theorem dX0_make_15 : decode cX0_make 15 = .ok (.iconst 5, 1) := by decide +kernel
theorem dX0_make_16 : decode cX0_make 16 = .ok (.ireturn, 1) := by decide +kernel
theorem dX0_make_17 : decode cX0_make 17 = .ok (.aload_n 0, 1) := by decide +kernel
theorem dX0_make_18 : decode cX0_make 18 = .ok (.getfield 21, 3) := by decide +kernel
theorem dX0_make_21 : decode cX0_make 21 = .ok (.aload_n 2, 1) := by decide +kernel
theorem dX0_make_22 : decode cX0_make 22 = .ok (.getfield 129, 3) := by decide +kernel
theorem dX0_make_25 : decode cX0_make 25 = .ok (.aload_n 2, 1) := by decide +kernel
theorem dX0_make_26 : decode cX0_make 26 = .ok (.getfield 181, 3) := by decide +kernel
theorem dX0_make_29 : decode cX0_make 29 = .ok (.arraylength, 1) := by decide +kernel
theorem dX0_make_30 : decode cX0_make 30 = .ok (.invokevirtual 187, 3) := by decide +kernel
theorem dX0_make_33 : decode cX0_make 33 = .ok (.lstore_n 3, 1) := by decide +kernel
theorem dX0_make_34 : decode cX0_make 34 = .ok (.aload_n 2, 1) := by decide +kernel
theorem dX0_make_35 : decode cX0_make 35 = .ok (.getfield 181, 3) := by decide +kernel
theorem dX0_make_38 : decode cX0_make 38 = .ok (.astore 5, 2) := by decide +kernel
theorem dX0_make_40 : decode cX0_make 40 = .ok (.aload 5, 2) := by decide +kernel
theorem dX0_make_42 : decode cX0_make 42 = .ok (.arraylength, 1) := by decide +kernel
theorem dX0_make_43 : decode cX0_make 43 = .ok (.istore 6, 2) := by decide +kernel
theorem dX0_make_45 : decode cX0_make 45 = .ok (.iconst 0, 1) := by decide +kernel
theorem dX0_make_46 : decode cX0_make 46 = .ok (.istore 7, 2) := by decide +kernel
theorem dX0_make_48 : decode cX0_make 48 = .ok (.iload 7, 2) := by decide +kernel
theorem dX0_make_50 : decode cX0_make 50 = .ok (.iload 6, 2) := by decide +kernel
theorem dX0_make_52 : decode cX0_make 52 = .ok (.if_icmp .ge 33, 3) := by decide +kernel
theorem dX0_make_55 : decode cX0_make 55 = .ok (.aload 5, 2) := by decide +kernel
theorem dX0_make_57 : decode cX0_make 57 = .ok (.iload 7, 2) := by decide +kernel
theorem dX0_make_59 : decode cX0_make 59 = .ok (.iaload, 1) := by decide +kernel
theorem dX0_make_60 : decode cX0_make 60 = .ok (.istore 8, 2) := by decide +kernel
theorem dX0_make_62 : decode cX0_make 62 = .ok (.aload_n 0, 1) := by decide +kernel
theorem dX0_make_63 : decode cX0_make 63 = .ok (.getfield 21, 3) := by decide +kernel
theorem dX0_make_66 : decode cX0_make 66 = .ok (.aload_n 0, 1) := by decide +kernel
theorem dX0_make_67 : decode cX0_make 67 = .ok (.getfield 12, 3) := by decide +kernel
theorem dX0_make_70 : decode cX0_make 70 = .ok (.aload_n 1, 1) := by decide +kernel
theorem dX0_make_71 : decode cX0_make 71 = .ok (.iload 8, 2) := by decide +kernel
theorem dX0_make_73 : decode cX0_make 73 = .ok (.invokevirtual 102, 3) := by decide +kernel
theorem dX0_make_76 : decode cX0_make 76 = .ok (.invokevirtual 191, 3) := by decide +kernel
theorem dX0_make_79 : decode cX0_make 79 = .ok (.iinc 7 1, 3) := by decide +kernel
theorem dX0_make_82 : decode cX0_make 82 = .ok (.goto (-34), 3) := by decide +kernel
theorem dX0_make_85 : decode cX0_make 85 = .ok (.aload_n 0, 1) := by decide +kernel
theorem dX0_make_86 : decode cX0_make 86 = .ok (.aload_n 1, 1) := by decide +kernel
theorem dX0_make_87 : decode cX0_make 87 = .ok (.aload_n 2, 1) := by decide +kernel
theorem dX0_make_88 : decode cX0_make 88 = .ok (.getfield 126, 3) := by decide +kernel
theorem dX0_make_91 : decode cX0_make 91 = .ok (.lload_n 3, 1) := by decide +kernel
theorem dX0_make_92 : decode cX0_make 92 = .ok (.invokevirtual 132, 3) := by decide +kernel
theorem dX0_make_95 : decode cX0_make 95 = .ok (.ireturn, 1) := by decide +kernel
theorem dX0_take_0 : decode cX0_take 0 = .ok (.aload_n 0, 1) := by decide +kernel
theorem dX0_take_1 : decode cX0_take 1 = .ok (.getfield 12, 3) := by decide +kernel
theorem dX0_take_4 : decode cX0_take 4 = .ok (.aload_n 1, 1) := by decide +kernel
theorem dX0_take_5 : decode cX0_take 5 = .ok (.aload_n 2, 1) := by decide +kernel
theorem dX0_take_6 : decode cX0_take 6 = .ok (.getfield 126, 3) := by decide +kernel
theorem dX0_take_9 : decode cX0_take 9 = .ok (.invokevirtual 102, 3) := by decide +kernel
theorem dX0_take_12 : decode cX0_take 12 = .ok (.lstore_n 3, 1) := by decide +kernel
theorem dX0_take_13 : decode cX0_take 13 = .ok (.lload_n 3, 1) := by decide +kernel
theorem dX0_take_14 : decode cX0_take 14 = .ok (.aload_n 2, 1) := by decide +kernel
theorem dX0_take_15 : decode cX0_take 15 = .ok (.getfield 129, 3) := by decide +kernel
theorem dX0_take_18 : decode cX0_take 18 = .ok (.invokestatic 156, 3) := by decide +kernel
theorem dX0_take_21 : decode cX0_take 21 = .ok (.ifCond .eq 15, 3) := by decide +kernel
theorem dX0_take_24 : decode cX0_take 24 = .ok (.lload_n 3, 1) := by decide +kernel
theorem dX0_take_25 : decode cX0_take 25 = .ok (.invokestatic 195, 3) := by decide +kernel
theorem dX0_take_28 : decode cX0_take 28 = .ok (.aload_n 2, 1) := by decide +kernel
theorem dX0_take_29 : decode cX0_take 29 = .ok (.getfield 181, 3) := by decide +kernel
theorem dX0_take_32 : decode cX0_take 32 = .ok (.arraylength, 1) := by decide +kernel
theorem dX0_take_33 : decode cX0_take 33 = .ok (.if_icmp .eq 6, 3) := by decide +kernel
theorem dX0_take_36 : decode cX0_take 36 = .ok (.bipush 7, 2) := by decide +kernel
theorem dX0_take_38 : decode cX0_take 38 = .ok (.ireturn, 1) := by decide +kernel
theorem dX0_take_39 : decode cX0_take 39 = .ok (.iconst 0, 1) := by decide +kernel
theorem dX0_take_40 : decode cX0_take 40 = .ok (.istore 5, 2) := by decide +kernel
theorem dX0_take_42 : decode cX0_take 42 = .ok (.iload 5, 2) := by decide +kernel
theorem dX0_take_44 : decode cX0_take 44 = .ok (.aload_n 2, 1) := by decide +kernel
theorem dX0_take_45 : decode cX0_take 45 = .ok (.getfield 181, 3) := by decide +kernel
theorem dX0_take_48 : decode cX0_take 48 = .ok (.arraylength, 1) := by decide +kernel
theorem dX0_take_49 : decode cX0_take 49 = .ok (.if_icmp .ge 34, 3) := by decide +kernel
theorem dX0_take_52 : decode cX0_take 52 = .ok (.aload_n 0, 1) := by decide +kernel
theorem dX0_take_53 : decode cX0_take 53 = .ok (.getfield 12, 3) := by decide +kernel
theorem dX0_take_56 : decode cX0_take 56 = .ok (.aload_n 1, 1) := by decide +kernel
theorem dX0_take_57 : decode cX0_take 57 = .ok (.aload_n 2, 1) := by decide +kernel
theorem dX0_take_58 : decode cX0_take 58 = .ok (.getfield 181, 3) := by decide +kernel
theorem dX0_take_61 : decode cX0_take 61 = .ok (.iload 5, 2) := by decide +kernel
theorem dX0_take_63 : decode cX0_take 63 = .ok (.iaload, 1) := by decide +kernel
theorem dX0_take_64 : decode cX0_take 64 = .ok (.aload_n 0, 1) := by decide +kernel
theorem dX0_take_65 : decode cX0_take 65 = .ok (.getfield 21, 3) := by decide +kernel
theorem dX0_take_68 : decode cX0_take 68 = .ok (.lload_n 3, 1) := by decide +kernel
theorem dX0_take_69 : decode cX0_take 69 = .ok (.iload 5, 2) := by decide +kernel
theorem dX0_take_71 : decode cX0_take 71 = .ok (.invokevirtual 198, 3) := by decide +kernel
theorem dX0_take_74 : decode cX0_take 74 = .ok (.invokevirtual 38, 3) := by decide +kernel
theorem dX0_take_77 : decode cX0_take 77 = .ok (.iinc 5 1, 3) := by decide +kernel
theorem dX0_take_80 : decode cX0_take 80 = .ok (.goto (-38), 3) := by decide +kernel
theorem dX0_take_83 : decode cX0_take 83 = .ok (.iconst 0, 1) := by decide +kernel
theorem dX0_take_84 : decode cX0_take 84 = .ok (.ireturn, 1) := by decide +kernel
theorem dX0_sum_0 : decode cX0_sum 0 = .ok (.aload_n 0, 1) := by decide +kernel
theorem dX0_sum_1 : decode cX0_sum 1 = .ok (.getfield 12, 3) := by decide +kernel
theorem dX0_sum_4 : decode cX0_sum 4 = .ok (.aload_n 1, 1) := by decide +kernel
theorem dX0_sum_5 : decode cX0_sum 5 = .ok (.aload_n 2, 1) := by decide +kernel
theorem dX0_sum_6 : decode cX0_sum 6 = .ok (.getfield 129, 3) := by decide +kernel
theorem dX0_sum_9 : decode cX0_sum 9 = .ok (.invokevirtual 102, 3) := by decide +kernel
theorem dX0_sum_12 : decode cX0_sum 12 = .ok (.lstore_n 3, 1) := by decide +kernel
theorem dX0_sum_13 : decode cX0_sum 13 = .ok (.aload_n 0, 1) := by decide +kernel
theorem dX0_sum_14 : decode cX0_sum 14 = .ok (.getfield 12, 3) := by decide +kernel
theorem dX0_sum_17 : decode cX0_sum 17 = .ok (.aload_n 1, 1) := by decide +kernel
theorem dX0_sum_18 : decode cX0_sum 18 = .ok (.aload_n 2, 1) := by decide +kernel
theorem dX0_sum_19 : decode cX0_sum 19 = .ok (.getfield 160, 3) := by decide +kernel
theorem dX0_sum_22 : decode cX0_sum 22 = .ok (.invokevirtual 102, 3) := by decide +kernel
theorem dX0_sum_25 : decode cX0_sum 25 = .ok (.lstore 5, 2) := by decide +kernel
theorem dX0_sum_27 : decode cX0_sum 27 = .ok (.lload_n 3, 1) := by decide +kernel
theorem dX0_sum_28 : decode cX0_sum 28 = .ok (.invokestatic 202, 3) := by decide +kernel
theorem dX0_sum_31 : decode cX0_sum 31 = .ok (.ifCond .ne 11, 3) := by decide +kernel
theorem dX0_sum_34 : decode cX0_sum 34 = .ok (.lload 5, 2) := by decide +kernel
theorem dX0_sum_36 : decode cX0_sum 36 = .ok (.invokestatic 202, 3) := by decide +kernel
theorem dX0_sum_39 : decode cX0_sum 39 = .ok (.ifCond .eq 6, 3) := by decide +kernel
theorem dX0_sum_42 : decode cX0_sum 42 = .ok (.bipush 6, 2) := by decide +kernel
theorem dX0_sum_44 : decode cX0_sum 44 = .ok (.ireturn, 1) := by decide +kernel
theorem dX0_sum_45 : decode cX0_sum 45 = .ok (.lload 5, 2) := by decide +kernel
theorem dX0_sum_47 : decode cX0_sum 47 = .ok (.lconst 0, 1) := by decide +kernel
theorem dX0_sum_48 : decode cX0_sum 48 = .ok (.lcmp, 1) := by decide +kernel
theorem dX0_sum_49 : decode cX0_sum 49 = .ok (.ifCond .ne 22, 3) := by decide +kernel
theorem dX0_sum_52 : decode cX0_sum 52 = .ok (.aload_n 2, 1) := by decide +kernel
theorem dX0_sum_53 : decode cX0_sum 53 = .ok (.getfield 206, 3) := by decide +kernel
theorem dX0_sum_56 : decode cX0_sum 56 = .ok (.iconst 3, 1) := by decide +kernel
theorem dX0_sum_57 : decode cX0_sum 57 = .ok (.if_icmp .eq 11, 3) := by decide +kernel
theorem dX0_sum_60 : decode cX0_sum 60 = .ok (.aload_n 2, 1) := by decide +kernel
theorem dX0_sum_61 : decode cX0_sum 61 = .ok (.getfield 206, 3) := by decide +kernel
theorem dX0_sum_64 : decode cX0_sum 64 = .ok (.iconst 4, 1) := by decide +kernel
theorem dX0_sum_65 : decode cX0_sum 65 = .ok (.if_icmp .ne 6, 3) := by decide +kernel
theorem dX0_sum_68 : decode cX0_sum 68 = .ok (.bipush 7, 2) := by decide +kernel
theorem dX0_sum_70 : decode cX0_sum 70 = .ok (.ireturn, 1) := by decide +kernel
theorem dX0_sum_71 : decode cX0_sum 71 = .ok (.aload_n 0, 1) := by decide +kernel
theorem dX0_sum_72 : decode cX0_sum 72 = .ok (.aload_n 1, 1) := by decide +kernel
theorem dX0_sum_73 : decode cX0_sum 73 = .ok (.aload_n 2, 1) := by decide +kernel
theorem dX0_sum_74 : decode cX0_sum 74 = .ok (.getfield 126, 3) := by decide +kernel
theorem dX0_sum_77 : decode cX0_sum 77 = .ok (.aload_n 2, 1) := by decide +kernel
theorem dX0_sum_78 : decode cX0_sum 78 = .ok (.getfield 206, 3) := by decide +kernel
theorem dX0_sum_81 : decode cX0_sum 81 = .ok (.lload_n 3, 1) := by decide +kernel
theorem dX0_sum_82 : decode cX0_sum 82 = .ok (.l2i, 1) := by decide +kernel
theorem dX0_sum_83 : decode cX0_sum 83 = .ok (.lload 5, 2) := by decide +kernel
theorem dX0_sum_85 : decode cX0_sum 85 = .ok (.l2i, 1) := by decide +kernel
theorem dX0_sum_86 : decode cX0_sum 86 = .ok (.invokestatic 209, 3) := by decide +kernel
theorem dX0_sum_89 : decode cX0_sum 89 = .ok (.i2l, 1) := by decide +kernel
theorem dX0_sum_90 : decode cX0_sum 90 = .ok (.invokevirtual 132, 3) := by decide +kernel
theorem dX0_sum_93 : decode cX0_sum 93 = .ok (.ireturn, 1) := by decide +kernel
theorem dX0_result_0 : decode cX0_result 0 = .ok (.iload_n 0, 1) := by decide +kernel
theorem dX0_result_1 : decode cX0_result 1 = .ok (.tableswitch 55 0 3 #[31, 35, 39, 43], 31) := by decide +kernel
theorem dX0_result_32 : decode cX0_result 32 = .ok (.iload_n 1, 1) := by decide +kernel
theorem dX0_result_33 : decode cX0_result 33 = .ok (.iload_n 2, 1) := by decide +kernel
theorem dX0_result_34 : decode cX0_result 34 = .ok (.iadd, 1) := by decide +kernel
theorem dX0_result_35 : decode cX0_result 35 = .ok (.ireturn, 1) := by decide +kernel
theorem dX0_result_36 : decode cX0_result 36 = .ok (.iload_n 1, 1) := by decide +kernel
theorem dX0_result_37 : decode cX0_result 37 = .ok (.iload_n 2, 1) := by decide +kernel
theorem dX0_result_38 : decode cX0_result 38 = .ok (.isub, 1) := by decide +kernel
theorem dX0_result_39 : decode cX0_result 39 = .ok (.ireturn, 1) := by decide +kernel
theorem dX0_result_40 : decode cX0_result 40 = .ok (.iload_n 1, 1) := by decide +kernel
theorem dX0_result_41 : decode cX0_result 41 = .ok (.iload_n 2, 1) := by decide +kernel
theorem dX0_result_42 : decode cX0_result 42 = .ok (.imul, 1) := by decide +kernel
theorem dX0_result_43 : decode cX0_result 43 = .ok (.ireturn, 1) := by decide +kernel
theorem dX0_result_44 : decode cX0_result 44 = .ok (.iload_n 2, 1) := by decide +kernel
theorem dX0_result_45 : decode cX0_result 45 = .ok (.ifCond .ne 7, 3) := by decide +kernel
theorem dX0_result_48 : decode cX0_result 48 = .ok (.iconst 0, 1) := by decide +kernel
theorem dX0_result_49 : decode cX0_result 49 = .ok (.goto 6, 3) := by decide +kernel
theorem dX0_result_52 : decode cX0_result 52 = .ok (.iload_n 1, 1) := by decide +kernel
theorem dX0_result_53 : decode cX0_result 53 = .ok (.iload_n 2, 1) := by decide +kernel
theorem dX0_result_54 : decode cX0_result 54 = .ok (.idiv, 1) := by decide +kernel
theorem dX0_result_55 : decode cX0_result 55 = .ok (.ireturn, 1) := by decide +kernel
theorem dX0_result_56 : decode cX0_result 56 = .ok (.iload_n 2, 1) := by decide +kernel
theorem dX0_result_57 : decode cX0_result 57 = .ok (.ifCond .ne 7, 3) := by decide +kernel
theorem dX0_result_60 : decode cX0_result 60 = .ok (.iconst 0, 1) := by decide +kernel
theorem dX0_result_61 : decode cX0_result 61 = .ok (.goto 6, 3) := by decide +kernel
theorem dX0_result_64 : decode cX0_result 64 = .ok (.iload_n 1, 1) := by decide +kernel
theorem dX0_result_65 : decode cX0_result 65 = .ok (.iload_n 2, 1) := by decide +kernel
theorem dX0_result_66 : decode cX0_result 66 = .ok (.irem, 1) := by decide +kernel
theorem dX0_result_67 : decode cX0_result 67 = .ok (.ireturn, 1) := by decide +kernel
theorem dX0_compare_0 : decode cX0_compare 0 = .ok (.aload_n 0, 1) := by decide +kernel
theorem dX0_compare_1 : decode cX0_compare 1 = .ok (.getfield 12, 3) := by decide +kernel
theorem dX0_compare_4 : decode cX0_compare 4 = .ok (.aload_n 1, 1) := by decide +kernel
theorem dX0_compare_5 : decode cX0_compare 5 = .ok (.aload_n 2, 1) := by decide +kernel
theorem dX0_compare_6 : decode cX0_compare 6 = .ok (.getfield 126, 3) := by decide +kernel
theorem dX0_compare_9 : decode cX0_compare 9 = .ok (.invokevirtual 102, 3) := by decide +kernel
theorem dX0_compare_12 : decode cX0_compare 12 = .ok (.lstore_n 3, 1) := by decide +kernel
theorem dX0_compare_13 : decode cX0_compare 13 = .ok (.aload_n 0, 1) := by decide +kernel
theorem dX0_compare_14 : decode cX0_compare 14 = .ok (.getfield 12, 3) := by decide +kernel
theorem dX0_compare_17 : decode cX0_compare 17 = .ok (.aload_n 1, 1) := by decide +kernel
theorem dX0_compare_18 : decode cX0_compare 18 = .ok (.aload_n 2, 1) := by decide +kernel
theorem dX0_compare_19 : decode cX0_compare 19 = .ok (.getfield 129, 3) := by decide +kernel
theorem dX0_compare_22 : decode cX0_compare 22 = .ok (.invokevirtual 102, 3) := by decide +kernel
theorem dX0_compare_25 : decode cX0_compare 25 = .ok (.lstore 5, 2) := by decide +kernel
theorem dX0_compare_27 : decode cX0_compare 27 = .ok (.lload_n 3, 1) := by decide +kernel
theorem dX0_compare_28 : decode cX0_compare 28 = .ok (.invokestatic 202, 3) := by decide +kernel
theorem dX0_compare_31 : decode cX0_compare 31 = .ok (.ifCond .ne 11, 3) := by decide +kernel
theorem dX0_compare_34 : decode cX0_compare 34 = .ok (.lload 5, 2) := by decide +kernel
theorem dX0_compare_36 : decode cX0_compare 36 = .ok (.invokestatic 202, 3) := by decide +kernel
theorem dX0_compare_39 : decode cX0_compare 39 = .ok (.ifCond .eq 6, 3) := by decide +kernel
theorem dX0_compare_42 : decode cX0_compare 42 = .ok (.bipush 6, 2) := by decide +kernel
theorem dX0_compare_44 : decode cX0_compare 44 = .ok (.ireturn, 1) := by decide +kernel
theorem dX0_compare_45 : decode cX0_compare 45 = .ok (.aload_n 2, 1) := by decide +kernel
theorem dX0_compare_46 : decode cX0_compare 46 = .ok (.getfield 160, 3) := by decide +kernel
theorem dX0_compare_49 : decode cX0_compare 49 = .ok (.lload_n 3, 1) := by decide +kernel
theorem dX0_compare_50 : decode cX0_compare 50 = .ok (.lload 5, 2) := by decide +kernel
theorem dX0_compare_52 : decode cX0_compare 52 = .ok (.invokestatic 213, 3) := by decide +kernel
theorem dX0_compare_55 : decode cX0_compare 55 = .ok (.ifCond .eq 7, 3) := by decide +kernel
theorem dX0_compare_58 : decode cX0_compare 58 = .ok (.iconst 0, 1) := by decide +kernel
theorem dX0_compare_59 : decode cX0_compare 59 = .ok (.goto 5, 3) := by decide +kernel
theorem dX0_compare_62 : decode cX0_compare 62 = .ok (.bipush 7, 2) := by decide +kernel
theorem dX0_compare_64 : decode cX0_compare 64 = .ok (.ireturn, 1) := by decide +kernel
theorem dX0_holds_0 : decode cX0_holds 0 = .ok (.iload_n 0, 1) := by decide +kernel
theorem dX0_holds_1 : decode cX0_holds 1 = .ok (.tableswitch 95 0 4 #[35, 47, 59, 71, 83], 35) := by decide +kernel
theorem dX0_holds_36 : decode cX0_holds 36 = .ok (.lload_n 1, 1) := by decide +kernel
theorem dX0_holds_37 : decode cX0_holds 37 = .ok (.lload_n 3, 1) := by decide +kernel
theorem dX0_holds_38 : decode cX0_holds 38 = .ok (.lcmp, 1) := by decide +kernel
theorem dX0_holds_39 : decode cX0_holds 39 = .ok (.ifCond .ge 7, 3) := by decide +kernel
theorem dX0_holds_42 : decode cX0_holds 42 = .ok (.iconst 1, 1) := by decide +kernel
theorem dX0_holds_43 : decode cX0_holds 43 = .ok (.goto 4, 3) := by decide +kernel
theorem dX0_holds_46 : decode cX0_holds 46 = .ok (.iconst 0, 1) := by decide +kernel
theorem dX0_holds_47 : decode cX0_holds 47 = .ok (.ireturn, 1) := by decide +kernel
theorem dX0_holds_48 : decode cX0_holds 48 = .ok (.lload_n 1, 1) := by decide +kernel
theorem dX0_holds_49 : decode cX0_holds 49 = .ok (.lload_n 3, 1) := by decide +kernel
theorem dX0_holds_50 : decode cX0_holds 50 = .ok (.lcmp, 1) := by decide +kernel
theorem dX0_holds_51 : decode cX0_holds 51 = .ok (.ifCond .gt 7, 3) := by decide +kernel
theorem dX0_holds_54 : decode cX0_holds 54 = .ok (.iconst 1, 1) := by decide +kernel
theorem dX0_holds_55 : decode cX0_holds 55 = .ok (.goto 4, 3) := by decide +kernel
theorem dX0_holds_58 : decode cX0_holds 58 = .ok (.iconst 0, 1) := by decide +kernel
theorem dX0_holds_59 : decode cX0_holds 59 = .ok (.ireturn, 1) := by decide +kernel
theorem dX0_holds_60 : decode cX0_holds 60 = .ok (.lload_n 1, 1) := by decide +kernel
theorem dX0_holds_61 : decode cX0_holds 61 = .ok (.lload_n 3, 1) := by decide +kernel
theorem dX0_holds_62 : decode cX0_holds 62 = .ok (.lcmp, 1) := by decide +kernel
theorem dX0_holds_63 : decode cX0_holds 63 = .ok (.ifCond .le 7, 3) := by decide +kernel
theorem dX0_holds_66 : decode cX0_holds 66 = .ok (.iconst 1, 1) := by decide +kernel
theorem dX0_holds_67 : decode cX0_holds 67 = .ok (.goto 4, 3) := by decide +kernel
theorem dX0_holds_70 : decode cX0_holds 70 = .ok (.iconst 0, 1) := by decide +kernel
theorem dX0_holds_71 : decode cX0_holds 71 = .ok (.ireturn, 1) := by decide +kernel
theorem dX0_holds_72 : decode cX0_holds 72 = .ok (.lload_n 1, 1) := by decide +kernel
theorem dX0_holds_73 : decode cX0_holds 73 = .ok (.lload_n 3, 1) := by decide +kernel
theorem dX0_holds_74 : decode cX0_holds 74 = .ok (.lcmp, 1) := by decide +kernel
theorem dX0_holds_75 : decode cX0_holds 75 = .ok (.ifCond .lt 7, 3) := by decide +kernel
theorem dX0_holds_78 : decode cX0_holds 78 = .ok (.iconst 1, 1) := by decide +kernel
theorem dX0_holds_79 : decode cX0_holds 79 = .ok (.goto 4, 3) := by decide +kernel
theorem dX0_holds_82 : decode cX0_holds 82 = .ok (.iconst 0, 1) := by decide +kernel
theorem dX0_holds_83 : decode cX0_holds 83 = .ok (.ireturn, 1) := by decide +kernel
theorem dX0_holds_84 : decode cX0_holds 84 = .ok (.lload_n 1, 1) := by decide +kernel
theorem dX0_holds_85 : decode cX0_holds 85 = .ok (.lload_n 3, 1) := by decide +kernel
theorem dX0_holds_86 : decode cX0_holds 86 = .ok (.lcmp, 1) := by decide +kernel
theorem dX0_holds_87 : decode cX0_holds 87 = .ok (.ifCond .ne 7, 3) := by decide +kernel
theorem dX0_holds_90 : decode cX0_holds 90 = .ok (.iconst 1, 1) := by decide +kernel
theorem dX0_holds_91 : decode cX0_holds 91 = .ok (.goto 4, 3) := by decide +kernel
theorem dX0_holds_94 : decode cX0_holds 94 = .ok (.iconst 0, 1) := by decide +kernel
theorem dX0_holds_95 : decode cX0_holds 95 = .ok (.ireturn, 1) := by decide +kernel
theorem dX0_holds_96 : decode cX0_holds 96 = .ok (.lload_n 1, 1) := by decide +kernel
theorem dX0_holds_97 : decode cX0_holds 97 = .ok (.lload_n 3, 1) := by decide +kernel
theorem dX0_holds_98 : decode cX0_holds 98 = .ok (.lcmp, 1) := by decide +kernel
theorem dX0_holds_99 : decode cX0_holds 99 = .ok (.ifCond .eq 7, 3) := by decide +kernel
theorem dX0_holds_102 : decode cX0_holds 102 = .ok (.iconst 1, 1) := by decide +kernel
theorem dX0_holds_103 : decode cX0_holds 103 = .ok (.goto 4, 3) := by decide +kernel
theorem dX0_holds_106 : decode cX0_holds 106 = .ok (.iconst 0, 1) := by decide +kernel
theorem dX0_holds_107 : decode cX0_holds 107 = .ok (.ireturn, 1) := by decide +kernel
theorem dX0_leaveRedo_0 : decode cX0_leaveRedo 0 = .ok (.aload_n 0, 1) := by decide +kernel
theorem dX0_leaveRedo_1 : decode cX0_leaveRedo 1 = .ok (.getfield 12, 3) := by decide +kernel
theorem dX0_leaveRedo_4 : decode cX0_leaveRedo 4 = .ok (.iconst 3, 1) := by decide +kernel
theorem dX0_leaveRedo_5 : decode cX0_leaveRedo 5 = .ok (.invokevirtual 217, 3) := by decide +kernel
theorem dX0_leaveRedo_8 : decode cX0_leaveRedo 8 = .ok (.ifCond .ne 5, 3) := by decide +kernel
theorem dX0_leaveRedo_11 : decode cX0_leaveRedo 11 = .ok (.iconst 4, 1) := by decide +kernel
theorem dX0_leaveRedo_12 : decode cX0_leaveRedo 12 = .ok (.ireturn, 1) := by decide +kernel
theorem dX0_leaveRedo_13 : decode cX0_leaveRedo 13 = .ok (.aload_n 0, 1) := by decide +kernel
theorem dX0_leaveRedo_14 : decode cX0_leaveRedo 14 = .ok (.getfield 12, 3) := by decide +kernel
theorem dX0_leaveRedo_17 : decode cX0_leaveRedo 17 = .ok (.aload_n 1, 1) := by decide +kernel
theorem dX0_leaveRedo_18 : decode cX0_leaveRedo 18 = .ok (.iload_n 2, 1) := by decide +kernel
theorem dX0_leaveRedo_19 : decode cX0_leaveRedo 19 = .ok (.aload_n 0, 1) := by decide +kernel
theorem dX0_leaveRedo_20 : decode cX0_leaveRedo 20 = .ok (.getfield 21, 3) := by decide +kernel
theorem dX0_leaveRedo_23 : decode cX0_leaveRedo 23 = .ok (.invokevirtual 72, 3) := by decide +kernel
theorem dX0_leaveRedo_26 : decode cX0_leaveRedo 26 = .ok (.invokevirtual 218, 3) := by decide +kernel
theorem dX0_leaveRedo_29 : decode cX0_leaveRedo 29 = .ok (.iconst 0, 1) := by decide +kernel
theorem dX0_leaveRedo_30 : decode cX0_leaveRedo 30 = .ok (.ireturn, 1) := by decide +kernel
theorem dX0_call_0 : decode cX0_call 0 = .ok (.aload_n 2, 1) := by decide +kernel
theorem dX0_call_1 : decode cX0_call 1 = .ok (.getfield 222, 3) := by decide +kernel
theorem dX0_call_4 : decode cX0_call 4 = .ok (.astore_n 3, 1) := by decide +kernel
theorem dX0_call_5 : decode cX0_call 5 = .ok (.aload_n 3, 1) := by decide +kernel
theorem dX0_call_6 : decode cX0_call 6 = .ok (.ifnull 17, 3) := by decide +kernel
theorem dX0_call_9 : decode cX0_call 9 = .ok (.aload_n 0, 1) := by decide +kernel
theorem dX0_call_10 : decode cX0_call 10 = .ok (.getfield 12, 3) := by decide +kernel
theorem dX0_call_13 : decode cX0_call 13 = .ok (.aload_n 3, 1) := by decide +kernel
theorem dX0_call_14 : decode cX0_call 14 = .ok (.invokevirtual 225, 3) := by decide +kernel
theorem dX0_call_17 : decode cX0_call 17 = .ok (.invokevirtual 217, 3) := by decide +kernel
theorem dX0_call_20 : decode cX0_call 20 = .ok (.ifCond .ne 5, 3) := by decide +kernel
theorem dX0_call_23 : decode cX0_call 23 = .ok (.iconst 4, 1) := by decide +kernel
theorem dX0_call_24 : decode cX0_call 24 = .ok (.ireturn, 1) := by decide +kernel
theorem dX0_call_25 : decode cX0_call 25 = .ok (.aload_n 0, 1) := by decide +kernel
theorem dX0_call_26 : decode cX0_call 26 = .ok (.getfield 12, 3) := by decide +kernel
theorem dX0_call_29 : decode cX0_call 29 = .ok (.aload_n 3, 1) := by decide +kernel
theorem dX0_call_30 : decode cX0_call 30 = .ok (.invokevirtual 34, 3) := by decide +kernel
theorem dX0_call_33 : decode cX0_call 33 = .ok (.astore 4, 2) := by decide +kernel
theorem dX0_call_35 : decode cX0_call 35 = .ok (.aload 4, 2) := by decide +kernel
theorem dX0_call_37 : decode cX0_call 37 = .ok (.aload_n 1, 1) := by decide +kernel
theorem dX0_call_38 : decode cX0_call 38 = .ok (.putfield 228, 3) := by decide +kernel
theorem dX0_call_41 : decode cX0_call 41 = .ok (.aload 4, 2) := by decide +kernel
theorem dX0_call_43 : decode cX0_call 43 = .ok (.aload_n 2, 1) := by decide +kernel
theorem dX0_call_44 : decode cX0_call 44 = .ok (.putfield 231, 3) := by decide +kernel
theorem dX0_call_47 : decode cX0_call 47 = .ok (.aload 4, 2) := by decide +kernel
theorem dX0_call_49 : decode cX0_call 49 = .ok (.aload_n 0, 1) := by decide +kernel
theorem dX0_call_50 : decode cX0_call 50 = .ok (.getfield 52, 3) := by decide +kernel
theorem dX0_call_53 : decode cX0_call 53 = .ok (.putfield 234, 3) := by decide +kernel
theorem dX0_call_56 : decode cX0_call 56 = .ok (.iconst 0, 1) := by decide +kernel
theorem dX0_call_57 : decode cX0_call 57 = .ok (.istore 5, 2) := by decide +kernel
theorem dX0_call_59 : decode cX0_call 59 = .ok (.iload 5, 2) := by decide +kernel
theorem dX0_call_61 : decode cX0_call 61 = .ok (.aload_n 3, 1) := by decide +kernel
theorem dX0_call_62 : decode cX0_call 62 = .ok (.getfield 237, 3) := by decide +kernel
theorem dX0_call_65 : decode cX0_call 65 = .ok (.if_icmp .ge 45, 3) := by decide +kernel
theorem dX0_call_68 : decode cX0_call 68 = .ok (.iload 5, 2) := by decide +kernel
theorem dX0_call_70 : decode cX0_call 70 = .ok (.aload_n 2, 1) := by decide +kernel
theorem dX0_call_71 : decode cX0_call 71 = .ok (.getfield 181, 3) := by decide +kernel
theorem dX0_call_74 : decode cX0_call 74 = .ok (.arraylength, 1) := by decide +kernel
theorem dX0_call_75 : decode cX0_call 75 = .ok (.if_icmp .ge 35, 3) := by decide +kernel
theorem dX0_call_78 : decode cX0_call 78 = .ok (.aload_n 0, 1) := by decide +kernel
theorem dX0_call_79 : decode cX0_call 79 = .ok (.getfield 12, 3) := by decide +kernel
theorem dX0_call_82 : decode cX0_call 82 = .ok (.aload 4, 2) := by decide +kernel
theorem dX0_call_84 : decode cX0_call 84 = .ok (.iload 5, 2) := by decide +kernel
theorem dX0_call_86 : decode cX0_call 86 = .ok (.aload_n 0, 1) := by decide +kernel
theorem dX0_call_87 : decode cX0_call 87 = .ok (.getfield 12, 3) := by decide +kernel
theorem dX0_call_90 : decode cX0_call 90 = .ok (.aload_n 1, 1) := by decide +kernel
theorem dX0_call_91 : decode cX0_call 91 = .ok (.aload_n 2, 1) := by decide +kernel
theorem dX0_call_92 : decode cX0_call 92 = .ok (.getfield 181, 3) := by decide +kernel
theorem dX0_call_95 : decode cX0_call 95 = .ok (.iload 5, 2) := by decide +kernel
theorem dX0_call_97 : decode cX0_call 97 = .ok (.iaload, 1) := by decide +kernel
theorem dX0_call_98 : decode cX0_call 98 = .ok (.invokevirtual 102, 3) := by decide +kernel
theorem dX0_call_101 : decode cX0_call 101 = .ok (.invokevirtual 38, 3) := by decide +kernel
theorem dX0_call_104 : decode cX0_call 104 = .ok (.iinc 5 1, 3) := by decide +kernel
theorem dX0_call_107 : decode cX0_call 107 = .ok (.goto (-48), 3) := by decide +kernel
theorem dX0_call_110 : decode cX0_call 110 = .ok (.aload_n 0, 1) := by decide +kernel
theorem dX0_call_111 : decode cX0_call 111 = .ok (.aload 4, 2) := by decide +kernel
theorem dX0_call_113 : decode cX0_call 113 = .ok (.putfield 48, 3) := by decide +kernel
theorem dX0_call_116 : decode cX0_call 116 = .ok (.aload_n 0, 1) := by decide +kernel
theorem dX0_call_117 : decode cX0_call 117 = .ok (.iconst 0, 1) := by decide +kernel
theorem dX0_call_118 : decode cX0_call 118 = .ok (.invokevirtual 152, 3) := by decide +kernel
theorem dX0_call_121 : decode cX0_call 121 = .ok (.ireturn, 1) := by decide +kernel
theorem dX0_cut_0 : decode cX0_cut 0 = .ok (.lload_n 2, 1) := by decide +kernel
theorem dX0_cut_1 : decode cX0_cut 1 = .ok (.invokestatic 202, 3) := by decide +kernel
theorem dX0_cut_4 : decode cX0_cut 4 = .ok (.ifCond .eq 6, 3) := by decide +kernel
theorem dX0_cut_7 : decode cX0_cut 7 = .ok (.bipush 6, 2) := by decide +kernel
theorem dX0_cut_9 : decode cX0_cut 9 = .ok (.ireturn, 1) := by decide +kernel
theorem dX0_cut_10 : decode cX0_cut 10 = .ok (.aload_n 0, 1) := by decide +kernel
theorem dX0_cut_11 : decode cX0_cut 11 = .ok (.getfield 12, 3) := by decide +kernel
theorem dX0_cut_14 : decode cX0_cut 14 = .ok (.lload_n 2, 1) := by decide +kernel
theorem dX0_cut_15 : decode cX0_cut 15 = .ok (.l2i, 1) := by decide +kernel
theorem dX0_cut_16 : decode cX0_cut 16 = .ok (.aload_n 1, 1) := by decide +kernel
theorem dX0_cut_17 : decode cX0_cut 17 = .ok (.invokevirtual 240, 3) := by decide +kernel
theorem dX0_cut_20 : decode cX0_cut 20 = .ok (.iconst 0, 1) := by decide +kernel
theorem dX0_cut_21 : decode cX0_cut 21 = .ok (.ireturn, 1) := by decide +kernel
theorem dX0_drop_0 : decode cX0_drop 0 = .ok (.lload_n 1, 1) := by decide +kernel
theorem dX0_drop_1 : decode cX0_drop 1 = .ok (.invokestatic 202, 3) := by decide +kernel
theorem dX0_drop_4 : decode cX0_drop 4 = .ok (.ifCond .eq 6, 3) := by decide +kernel
theorem dX0_drop_7 : decode cX0_drop 7 = .ok (.bipush 6, 2) := by decide +kernel
theorem dX0_drop_9 : decode cX0_drop 9 = .ok (.ireturn, 1) := by decide +kernel
theorem dX0_drop_10 : decode cX0_drop 10 = .ok (.aload_n 0, 1) := by decide +kernel
theorem dX0_drop_11 : decode cX0_drop 11 = .ok (.getfield 12, 3) := by decide +kernel
theorem dX0_drop_14 : decode cX0_drop 14 = .ok (.lload_n 1, 1) := by decide +kernel
theorem dX0_drop_15 : decode cX0_drop 15 = .ok (.l2i, 1) := by decide +kernel
theorem dX0_drop_16 : decode cX0_drop 16 = .ok (.invokevirtual 244, 3) := by decide +kernel
theorem dX0_drop_19 : decode cX0_drop 19 = .ok (.iconst 0, 1) := by decide +kernel
theorem dX0_drop_20 : decode cX0_drop 20 = .ok (.ireturn, 1) := by decide +kernel
theorem dX0_exit_0 : decode cX0_exit 0 = .ok (.aload_n 1, 1) := by decide +kernel
theorem dX0_exit_1 : decode cX0_exit 1 = .ok (.getfield 82, 3) := by decide +kernel
theorem dX0_exit_4 : decode cX0_exit 4 = .ok (.astore_n 2, 1) := by decide +kernel
theorem dX0_exit_5 : decode cX0_exit 5 = .ok (.aload_n 2, 1) := by decide +kernel
theorem dX0_exit_6 : decode cX0_exit 6 = .ok (.getfield 247, 3) := by decide +kernel
theorem dX0_exit_9 : decode cX0_exit 9 = .ok (.ifCond .ne 15, 3) := by decide +kernel
theorem dX0_exit_12 : decode cX0_exit 12 = .ok (.aload_n 0, 1) := by decide +kernel
theorem dX0_exit_13 : decode cX0_exit 13 = .ok (.getfield 12, 3) := by decide +kernel
theorem dX0_exit_16 : decode cX0_exit 16 = .ok (.aload_n 1, 1) := by decide +kernel
theorem dX0_exit_17 : decode cX0_exit 17 = .ok (.getfield 251, 3) := by decide +kernel
theorem dX0_exit_20 : decode cX0_exit 20 = .ok (.aload_n 1, 1) := by decide +kernel
theorem dX0_exit_21 : decode cX0_exit 21 = .ok (.invokevirtual 240, 3) := by decide +kernel
theorem dX0_exit_24 : decode cX0_exit 24 = .ok (.aload_n 1, 1) := by decide +kernel
theorem dX0_exit_25 : decode cX0_exit 25 = .ok (.getfield 228, 3) := by decide +kernel
theorem dX0_exit_28 : decode cX0_exit 28 = .ok (.astore_n 3, 1) := by decide +kernel
theorem dX0_exit_29 : decode cX0_exit 29 = .ok (.aload_n 1, 1) := by decide +kernel
theorem dX0_exit_30 : decode cX0_exit 30 = .ok (.getfield 231, 3) := by decide +kernel
theorem dX0_exit_33 : decode cX0_exit 33 = .ok (.astore 4, 2) := by decide +kernel
theorem dX0_exit_35 : decode cX0_exit 35 = .ok (.aload_n 3, 1) := by decide +kernel
theorem dX0_exit_36 : decode cX0_exit 36 = .ok (.ifnull 8, 3) := by decide +kernel
theorem dX0_exit_39 : decode cX0_exit 39 = .ok (.aload 4, 2) := by decide +kernel
theorem dX0_exit_41 : decode cX0_exit 41 = .ok (.ifnonnull 15, 3) := by decide +kernel
theorem dX0_exit_44 : decode cX0_exit 44 = .ok (.aload_n 0, 1) := by decide +kernel
theorem dX0_exit_45 : decode cX0_exit 45 = .ok (.dup, 1) := by decide +kernel
theorem dX0_exit_46 : decode cX0_exit 46 = .ok (.getfield 45, 3) := by decide +kernel
theorem dX0_exit_49 : decode cX0_exit 49 = .ok (.iconst 1, 1) := by decide +kernel
theorem dX0_exit_50 : decode cX0_exit 50 = .ok (.iadd, 1) := by decide +kernel
theorem dX0_exit_51 : decode cX0_exit 51 = .ok (.putfield 45, 3) := by decide +kernel
theorem dX0_exit_54 : decode cX0_exit 54 = .ok (.iconst 1, 1) := by decide +kernel
theorem dX0_exit_55 : decode cX0_exit 55 = .ok (.ireturn, 1) := by decide +kernel
theorem dX0_exit_56 : decode cX0_exit 56 = .ok (.iconst 0, 1) := by decide +kernel
theorem dX0_exit_57 : decode cX0_exit 57 = .ok (.istore 5, 2) := by decide +kernel
theorem dX0_exit_59 : decode cX0_exit 59 = .ok (.iload 5, 2) := by decide +kernel
theorem dX0_exit_61 : decode cX0_exit 61 = .ok (.aload_n 2, 1) := by decide +kernel
theorem dX0_exit_62 : decode cX0_exit 62 = .ok (.getfield 88, 3) := by decide +kernel
theorem dX0_exit_65 : decode cX0_exit 65 = .ok (.arraylength, 1) := by decide +kernel
theorem dX0_exit_66 : decode cX0_exit 66 = .ok (.if_icmp .ge 61, 3) := by decide +kernel
theorem dX0_exit_69 : decode cX0_exit 69 = .ok (.aload_n 2, 1) := by decide +kernel
theorem dX0_exit_70 : decode cX0_exit 70 = .ok (.getfield 237, 3) := by decide +kernel
theorem dX0_exit_73 : decode cX0_exit 73 = .ok (.iload 5, 2) := by decide +kernel
theorem dX0_exit_75 : decode cX0_exit 75 = .ok (.iadd, 1) := by decide +kernel
theorem dX0_exit_76 : decode cX0_exit 76 = .ok (.aload 4, 2) := by decide +kernel
theorem dX0_exit_78 : decode cX0_exit 78 = .ok (.getfield 181, 3) := by decide +kernel
theorem dX0_exit_81 : decode cX0_exit 81 = .ok (.arraylength, 1) := by decide +kernel
theorem dX0_exit_82 : decode cX0_exit 82 = .ok (.if_icmp .ge 45, 3) := by decide +kernel
theorem dX0_exit_85 : decode cX0_exit 85 = .ok (.aload_n 0, 1) := by decide +kernel
theorem dX0_exit_86 : decode cX0_exit 86 = .ok (.getfield 12, 3) := by decide +kernel
theorem dX0_exit_89 : decode cX0_exit 89 = .ok (.aload_n 3, 1) := by decide +kernel
theorem dX0_exit_90 : decode cX0_exit 90 = .ok (.aload 4, 2) := by decide +kernel
theorem dX0_exit_92 : decode cX0_exit 92 = .ok (.getfield 181, 3) := by decide +kernel
theorem dX0_exit_95 : decode cX0_exit 95 = .ok (.aload_n 2, 1) := by decide +kernel
theorem dX0_exit_96 : decode cX0_exit 96 = .ok (.getfield 237, 3) := by decide +kernel
theorem dX0_exit_99 : decode cX0_exit 99 = .ok (.iload 5, 2) := by decide +kernel
theorem dX0_exit_101 : decode cX0_exit 101 = .ok (.iadd, 1) := by decide +kernel
theorem dX0_exit_102 : decode cX0_exit 102 = .ok (.iaload, 1) := by decide +kernel
theorem dX0_exit_103 : decode cX0_exit 103 = .ok (.aload_n 0, 1) := by decide +kernel
theorem dX0_exit_104 : decode cX0_exit 104 = .ok (.getfield 12, 3) := by decide +kernel
theorem dX0_exit_107 : decode cX0_exit 107 = .ok (.aload_n 1, 1) := by decide +kernel
theorem dX0_exit_108 : decode cX0_exit 108 = .ok (.aload_n 2, 1) := by decide +kernel
theorem dX0_exit_109 : decode cX0_exit 109 = .ok (.getfield 88, 3) := by decide +kernel
theorem dX0_exit_112 : decode cX0_exit 112 = .ok (.iload 5, 2) := by decide +kernel
theorem dX0_exit_114 : decode cX0_exit 114 = .ok (.iaload, 1) := by decide +kernel
theorem dX0_exit_115 : decode cX0_exit 115 = .ok (.invokevirtual 102, 3) := by decide +kernel
theorem dX0_exit_118 : decode cX0_exit 118 = .ok (.invokevirtual 38, 3) := by decide +kernel
theorem dX0_exit_121 : decode cX0_exit 121 = .ok (.iinc 5 1, 3) := by decide +kernel
theorem dX0_exit_124 : decode cX0_exit 124 = .ok (.goto (-65), 3) := by decide +kernel
theorem dX0_exit_127 : decode cX0_exit 127 = .ok (.aload_n 0, 1) := by decide +kernel
theorem dX0_exit_128 : decode cX0_exit 128 = .ok (.getfield 12, 3) := by decide +kernel
theorem dX0_exit_131 : decode cX0_exit 131 = .ok (.aload_n 1, 1) := by decide +kernel
theorem dX0_exit_132 : decode cX0_exit 132 = .ok (.invokevirtual 254, 3) := by decide +kernel
theorem dX0_exit_135 : decode cX0_exit 135 = .ok (.aload_n 0, 1) := by decide +kernel
theorem dX0_exit_136 : decode cX0_exit 136 = .ok (.aload_n 3, 1) := by decide +kernel
theorem dX0_exit_137 : decode cX0_exit 137 = .ok (.putfield 48, 3) := by decide +kernel
theorem dX0_exit_140 : decode cX0_exit 140 = .ok (.aload_n 0, 1) := by decide +kernel
theorem dX0_exit_141 : decode cX0_exit 141 = .ok (.aload_n 1, 1) := by decide +kernel
theorem dX0_exit_142 : decode cX0_exit 142 = .ok (.getfield 234, 3) := by decide +kernel
theorem dX0_exit_145 : decode cX0_exit 145 = .ok (.invokevirtual 152, 3) := by decide +kernel
theorem dX0_exit_148 : decode cX0_exit 148 = .ok (.ireturn, 1) := by decide +kernel
theorem dX0_fail_0 : decode cX0_fail 0 = .ok (.aload_n 0, 1) := by decide +kernel
theorem dX0_fail_1 : decode cX0_fail 1 = .ok (.getfield 12, 3) := by decide +kernel
theorem dX0_fail_4 : decode cX0_fail 4 = .ok (.getfield 76, 3) := by decide +kernel
theorem dX0_fail_7 : decode cX0_fail 7 = .ok (.istore_n 1, 1) := by decide +kernel
theorem dX0_fail_8 : decode cX0_fail 8 = .ok (.iload_n 1, 1) := by decide +kernel
theorem dX0_fail_9 : decode cX0_fail 9 = .ok (.ifCond .le 69, 3) := by decide +kernel
theorem dX0_fail_12 : decode cX0_fail 12 = .ok (.aload_n 0, 1) := by decide +kernel
theorem dX0_fail_13 : decode cX0_fail 13 = .ok (.getfield 12, 3) := by decide +kernel
theorem dX0_fail_16 : decode cX0_fail 16 = .ok (.invokevirtual 258, 3) := by decide +kernel
theorem dX0_fail_19 : decode cX0_fail 19 = .ok (.astore_n 2, 1) := by decide +kernel
theorem dX0_fail_20 : decode cX0_fail 20 = .ok (.aload_n 2, 1) := by decide +kernel
theorem dX0_fail_21 : decode cX0_fail 21 = .ok (.ifnull 51, 3) := by decide +kernel
theorem dX0_fail_24 : decode cX0_fail 24 = .ok (.aload_n 2, 1) := by decide +kernel
theorem dX0_fail_25 : decode cX0_fail 25 = .ok (.getfield 262, 3) := by decide +kernel
theorem dX0_fail_28 : decode cX0_fail 28 = .ok (.ifCond .ne 44, 3) := by decide +kernel
theorem dX0_fail_31 : decode cX0_fail 31 = .ok (.aload_n 0, 1) := by decide +kernel
theorem dX0_fail_32 : decode cX0_fail 32 = .ok (.getfield 12, 3) := by decide +kernel
theorem dX0_fail_35 : decode cX0_fail 35 = .ok (.aload_n 2, 1) := by decide +kernel
theorem dX0_fail_36 : decode cX0_fail 36 = .ok (.invokevirtual 267, 3) := by decide +kernel
theorem dX0_fail_39 : decode cX0_fail 39 = .ok (.aload_n 0, 1) := by decide +kernel
theorem dX0_fail_40 : decode cX0_fail 40 = .ok (.getfield 21, 3) := by decide +kernel
theorem dX0_fail_43 : decode cX0_fail 43 = .ok (.aload_n 2, 1) := by decide +kernel
theorem dX0_fail_44 : decode cX0_fail 44 = .ok (.getfield 271, 3) := by decide +kernel
theorem dX0_fail_47 : decode cX0_fail 47 = .ok (.invokevirtual 274, 3) := by decide +kernel
theorem dX0_fail_50 : decode cX0_fail 50 = .ok (.aload_n 0, 1) := by decide +kernel
theorem dX0_fail_51 : decode cX0_fail 51 = .ok (.aload_n 2, 1) := by decide +kernel
theorem dX0_fail_52 : decode cX0_fail 52 = .ok (.getfield 276, 3) := by decide +kernel
theorem dX0_fail_55 : decode cX0_fail 55 = .ok (.putfield 48, 3) := by decide +kernel
theorem dX0_fail_58 : decode cX0_fail 58 = .ok (.aload_n 0, 1) := by decide +kernel
theorem dX0_fail_59 : decode cX0_fail 59 = .ok (.aload_n 2, 1) := by decide +kernel
theorem dX0_fail_60 : decode cX0_fail 60 = .ok (.getfield 279, 3) := by decide +kernel
theorem dX0_fail_63 : decode cX0_fail 63 = .ok (.putfield 52, 3) := by decide +kernel
theorem dX0_fail_66 : decode cX0_fail 66 = .ok (.aload_n 0, 1) := by decide +kernel
theorem dX0_fail_67 : decode cX0_fail 67 = .ok (.iconst 0, 1) := by decide +kernel
theorem dX0_fail_68 : decode cX0_fail 68 = .ok (.putfield 25, 3) := by decide +kernel
theorem dX0_fail_71 : decode cX0_fail 71 = .ok (.return_, 1) := by decide +kernel
theorem dX0_fail_72 : decode cX0_fail 72 = .ok (.iinc 1 (-1), 3) := by decide +kernel
theorem dX0_fail_75 : decode cX0_fail 75 = .ok (.goto (-67), 3) := by decide +kernel
theorem dX0_fail_78 : decode cX0_fail 78 = .ok (.aload_n 0, 1) := by decide +kernel
theorem dX0_fail_79 : decode cX0_fail 79 = .ok (.iconst 2, 1) := by decide +kernel
theorem dX0_fail_80 : decode cX0_fail 80 = .ok (.putfield 25, 3) := by decide +kernel
theorem dX0_fail_83 : decode cX0_fail 83 = .ok (.return_, 1) := by decide +kernel
theorem dX1_init_0 : decode cX1_init 0 = .ok (.aload_n 0, 1) := by decide +kernel
theorem dX1_init_1 : decode cX1_init 1 = .ok (.invokespecial 1, 3) := by decide +kernel
theorem dX1_init_4 : decode cX1_init 4 = .ok (.aload_n 0, 1) := by decide +kernel
theorem dX1_init_5 : decode cX1_init 5 = .ok (.iload_n 1, 1) := by decide +kernel
theorem dX1_init_6 : decode cX1_init 6 = .ok (.putfield 7, 3) := by decide +kernel
theorem dX1_init_9 : decode cX1_init 9 = .ok (.aload_n 0, 1) := by decide +kernel
theorem dX1_init_10 : decode cX1_init 10 = .ok (.aload_n 2, 1) := by decide +kernel
theorem dX1_init_11 : decode cX1_init 11 = .ok (.putfield 13, 3) := by decide +kernel
theorem dX1_init_14 : decode cX1_init 14 = .ok (.return_, 1) := by decide +kernel
theorem dX2_init_0 : decode cX2_init 0 = .ok (.aload_n 0, 1) := by decide +kernel
theorem dX2_init_1 : decode cX2_init 1 = .ok (.invokespecial 3, 3) := by decide +kernel
theorem dX2_init_4 : decode cX2_init 4 = .ok (.aload_n 0, 1) := by decide +kernel
theorem dX2_init_5 : decode cX2_init 5 = .ok (.new 9, 3) := by decide +kernel
theorem dX2_init_8 : decode cX2_init 8 = .ok (.dup, 1) := by decide +kernel
theorem dX2_init_9 : decode cX2_init 9 = .ok (.invokespecial 11, 3) := by decide +kernel
theorem dX2_init_12 : decode cX2_init 12 = .ok (.putfield 12, 3) := by decide +kernel
theorem dX2_init_15 : decode cX2_init 15 = .ok (.aload_n 0, 1) := by decide +kernel
theorem dX2_init_16 : decode cX2_init 16 = .ok (.new 9, 3) := by decide +kernel
theorem dX2_init_19 : decode cX2_init 19 = .ok (.dup, 1) := by decide +kernel
theorem dX2_init_20 : decode cX2_init 20 = .ok (.invokespecial 11, 3) := by decide +kernel
theorem dX2_init_23 : decode cX2_init 23 = .ok (.putfield 18, 3) := by decide +kernel
theorem dX2_init_26 : decode cX2_init 26 = .ok (.return_, 1) := by decide +kernel
theorem dX2_clear_0 : decode cX2_clear 0 = .ok (.aload_n 0, 1) := by decide +kernel
theorem dX2_clear_1 : decode cX2_clear 1 = .ok (.getfield 12, 3) := by decide +kernel
theorem dX2_clear_4 : decode cX2_clear 4 = .ok (.iconst 0, 1) := by decide +kernel
theorem dX2_clear_5 : decode cX2_clear 5 = .ok (.invokevirtual 21, 3) := by decide +kernel
theorem dX2_clear_8 : decode cX2_clear 8 = .ok (.aload_n 0, 1) := by decide +kernel
theorem dX2_clear_9 : decode cX2_clear 9 = .ok (.iload_n 1, 1) := by decide +kernel
theorem dX2_clear_10 : decode cX2_clear 10 = .ok (.putfield 25, 3) := by decide +kernel
theorem dX2_clear_13 : decode cX2_clear 13 = .ok (.aload_n 0, 1) := by decide +kernel
theorem dX2_clear_14 : decode cX2_clear 14 = .ok (.iconst 0, 1) := by decide +kernel
theorem dX2_clear_15 : decode cX2_clear 15 = .ok (.putfield 29, 3) := by decide +kernel
theorem dX2_clear_18 : decode cX2_clear 18 = .ok (.return_, 1) := by decide +kernel
theorem dX2_used_0 : decode cX2_used 0 = .ok (.aload_n 0, 1) := by decide +kernel
theorem dX2_used_1 : decode cX2_used 1 = .ok (.getfield 12, 3) := by decide +kernel
theorem dX2_used_4 : decode cX2_used 4 = .ok (.invokevirtual 32, 3) := by decide +kernel
theorem dX2_used_7 : decode cX2_used 7 = .ok (.ireturn, 1) := by decide +kernel
end
section
theorem dX2_goBackTo_0 : decode cX2_goBackTo 0 = .ok (.aload_n 0, 1) := by decide +kernel
theorem dX2_goBackTo_1 : decode cX2_goBackTo 1 = .ok (.getfield 12, 3) := by decide +kernel
theorem dX2_goBackTo_4 : decode cX2_goBackTo 4 = .ok (.iload_n 1, 1) := by decide +kernel
theorem dX2_goBackTo_5 : decode cX2_goBackTo 5 = .ok (.invokevirtual 21, 3) := by decide +kernel
theorem dX2_goBackTo_8 : decode cX2_goBackTo 8 = .ok (.return_, 1) := by decide +kernel
theorem dX2_hasRoom_0 : decode cX2_hasRoom 0 = .ok (.iload_n 1, 1) := by decide +kernel
theorem dX2_hasRoom_1 : decode cX2_hasRoom 1 = .ok (.ifCond .eq 21, 3) := by decide +kernel
theorem dX2_hasRoom_4 : decode cX2_hasRoom 4 = .ok (.aload_n 0, 1) := by decide +kernel
theorem dX2_hasRoom_5 : decode cX2_hasRoom 5 = .ok (.getfield 12, 3) := by decide +kernel
theorem dX2_hasRoom_8 : decode cX2_hasRoom 8 = .ok (.invokevirtual 32, 3) := by decide +kernel
theorem dX2_hasRoom_11 : decode cX2_hasRoom 11 = .ok (.iconst 1, 1) := by decide +kernel
theorem dX2_hasRoom_12 : decode cX2_hasRoom 12 = .ok (.iadd, 1) := by decide +kernel
theorem dX2_hasRoom_13 : decode cX2_hasRoom 13 = .ok (.iload_n 1, 1) := by decide +kernel
theorem dX2_hasRoom_14 : decode cX2_hasRoom 14 = .ok (.iadd, 1) := by decide +kernel
theorem dX2_hasRoom_15 : decode cX2_hasRoom 15 = .ok (.aload_n 0, 1) := by decide +kernel
theorem dX2_hasRoom_16 : decode cX2_hasRoom 16 = .ok (.getfield 25, 3) := by decide +kernel
theorem dX2_hasRoom_19 : decode cX2_hasRoom 19 = .ok (.if_icmp .gt 7, 3) := by decide +kernel
theorem dX2_hasRoom_22 : decode cX2_hasRoom 22 = .ok (.iconst 1, 1) := by decide +kernel
theorem dX2_hasRoom_23 : decode cX2_hasRoom 23 = .ok (.goto 4, 3) := by decide +kernel
theorem dX2_hasRoom_26 : decode cX2_hasRoom 26 = .ok (.iconst 0, 1) := by decide +kernel
theorem dX2_hasRoom_27 : decode cX2_hasRoom 27 = .ok (.ireturn, 1) := by decide +kernel
theorem dX2_open_0 : decode cX2_open 0 = .ok (.iload_n 2, 1) := by decide +kernel
theorem dX2_open_1 : decode cX2_open 1 = .ok (.ifCond .ne 10, 3) := by decide +kernel
theorem dX2_open_4 : decode cX2_open 4 = .ok (.iload_n 1, 1) := by decide +kernel
theorem dX2_open_5 : decode cX2_open 5 = .ok (.iconst 0, 1) := by decide +kernel
theorem dX2_open_6 : decode cX2_open 6 = .ok (.iconst 0, 1) := by decide +kernel
theorem dX2_open_7 : decode cX2_open 7 = .ok (.invokestatic 36, 3) := by decide +kernel
theorem dX2_open_10 : decode cX2_open 10 = .ok (.lreturn, 1) := by decide +kernel
theorem dX2_open_11 : decode cX2_open 11 = .ok (.iload_n 1, 1) := by decide +kernel
theorem dX2_open_12 : decode cX2_open 12 = .ok (.iload_n 2, 1) := by decide +kernel
theorem dX2_open_13 : decode cX2_open 13 = .ok (.aload_n 0, 1) := by decide +kernel
theorem dX2_open_14 : decode cX2_open 14 = .ok (.getfield 12, 3) := by decide +kernel
theorem dX2_open_17 : decode cX2_open 17 = .ok (.invokevirtual 32, 3) := by decide +kernel
theorem dX2_open_20 : decode cX2_open 20 = .ok (.invokestatic 36, 3) := by decide +kernel
theorem dX2_open_23 : decode cX2_open 23 = .ok (.lstore_n 3, 1) := by decide +kernel
theorem dX2_open_24 : decode cX2_open 24 = .ok (.aload_n 0, 1) := by decide +kernel
theorem dX2_open_25 : decode cX2_open 25 = .ok (.getfield 12, 3) := by decide +kernel
theorem dX2_open_28 : decode cX2_open 28 = .ok (.iload_n 1, 1) := by decide +kernel
theorem dX2_open_29 : decode cX2_open 29 = .ok (.i2l, 1) := by decide +kernel
theorem dX2_open_30 : decode cX2_open 30 = .ok (.invokevirtual 42, 3) := by decide +kernel
theorem dX2_open_33 : decode cX2_open 33 = .ok (.lload_n 3, 1) := by decide +kernel
theorem dX2_open_34 : decode cX2_open 34 = .ok (.lreturn, 1) := by decide +kernel
theorem dX2_fill_0 : decode cX2_fill 0 = .ok (.aload_n 0, 1) := by decide +kernel
theorem dX2_fill_1 : decode cX2_fill 1 = .ok (.getfield 12, 3) := by decide +kernel
theorem dX2_fill_4 : decode cX2_fill 4 = .ok (.lload_n 1, 1) := by decide +kernel
theorem dX2_fill_5 : decode cX2_fill 5 = .ok (.invokevirtual 42, 3) := by decide +kernel
theorem dX2_fill_8 : decode cX2_fill 8 = .ok (.aload_n 0, 1) := by decide +kernel
theorem dX2_fill_9 : decode cX2_fill 9 = .ok (.aload_n 0, 1) := by decide +kernel
theorem dX2_fill_10 : decode cX2_fill 10 = .ok (.getfield 29, 3) := by decide +kernel
theorem dX2_fill_13 : decode cX2_fill 13 = .ok (.aload_n 0, 1) := by decide +kernel
theorem dX2_fill_14 : decode cX2_fill 14 = .ok (.getfield 12, 3) := by decide +kernel
theorem dX2_fill_17 : decode cX2_fill 17 = .ok (.invokevirtual 32, 3) := by decide +kernel
theorem dX2_fill_20 : decode cX2_fill 20 = .ok (.invokestatic 46, 3) := by decide +kernel
theorem dX2_fill_23 : decode cX2_fill 23 = .ok (.putfield 29, 3) := by decide +kernel
theorem dX2_fill_26 : decode cX2_fill 26 = .ok (.return_, 1) := by decide +kernel
theorem dX2_field_0 : decode cX2_field 0 = .ok (.aload_n 0, 1) := by decide +kernel
theorem dX2_field_1 : decode cX2_field 1 = .ok (.getfield 12, 3) := by decide +kernel
theorem dX2_field_4 : decode cX2_field 4 = .ok (.lload_n 1, 1) := by decide +kernel
theorem dX2_field_5 : decode cX2_field 5 = .ok (.invokestatic 52, 3) := by decide +kernel
theorem dX2_field_8 : decode cX2_field 8 = .ok (.iconst 1, 1) := by decide +kernel
theorem dX2_field_9 : decode cX2_field 9 = .ok (.iadd, 1) := by decide +kernel
theorem dX2_field_10 : decode cX2_field 10 = .ok (.iload_n 3, 1) := by decide +kernel
theorem dX2_field_11 : decode cX2_field 11 = .ok (.iadd, 1) := by decide +kernel
theorem dX2_field_12 : decode cX2_field 12 = .ok (.invokevirtual 56, 3) := by decide +kernel
theorem dX2_field_15 : decode cX2_field 15 = .ok (.lreturn, 1) := by decide +kernel
theorem dX2_compare_0 : decode cX2_compare 0 = .ok (.aload_n 0, 1) := by decide +kernel
theorem dX2_compare_1 : decode cX2_compare 1 = .ok (.getfield 18, 3) := by decide +kernel
theorem dX2_compare_4 : decode cX2_compare 4 = .ok (.iconst 0, 1) := by decide +kernel
theorem dX2_compare_5 : decode cX2_compare 5 = .ok (.invokevirtual 21, 3) := by decide +kernel
theorem dX2_compare_8 : decode cX2_compare 8 = .ok (.aload_n 0, 1) := by decide +kernel
theorem dX2_compare_9 : decode cX2_compare 9 = .ok (.getfield 18, 3) := by decide +kernel
theorem dX2_compare_12 : decode cX2_compare 12 = .ok (.lload_n 1, 1) := by decide +kernel
theorem dX2_compare_13 : decode cX2_compare 13 = .ok (.invokevirtual 42, 3) := by decide +kernel
theorem dX2_compare_16 : decode cX2_compare 16 = .ok (.aload_n 0, 1) := by decide +kernel
theorem dX2_compare_17 : decode cX2_compare 17 = .ok (.getfield 18, 3) := by decide +kernel
theorem dX2_compare_20 : decode cX2_compare 20 = .ok (.lload_n 3, 1) := by decide +kernel
theorem dX2_compare_21 : decode cX2_compare 21 = .ok (.invokevirtual 42, 3) := by decide +kernel
theorem dX2_compare_24 : decode cX2_compare 24 = .ok (.iconst 0, 1) := by decide +kernel
theorem dX2_compare_25 : decode cX2_compare 25 = .ok (.istore 5, 2) := by decide +kernel
theorem dX2_compare_27 : decode cX2_compare 27 = .ok (.iload 5, 2) := by decide +kernel
theorem dX2_compare_29 : decode cX2_compare 29 = .ok (.sipush 5000, 3) := by decide +kernel
theorem dX2_compare_32 : decode cX2_compare 32 = .ok (.if_icmp .ge 58, 3) := by decide +kernel
theorem dX2_compare_35 : decode cX2_compare 35 = .ok (.aload_n 0, 1) := by decide +kernel
theorem dX2_compare_36 : decode cX2_compare 36 = .ok (.getfield 18, 3) := by decide +kernel
theorem dX2_compare_39 : decode cX2_compare 39 = .ok (.invokevirtual 32, 3) := by decide +kernel
theorem dX2_compare_42 : decode cX2_compare 42 = .ok (.ifCond .le 48, 3) := by decide +kernel
theorem dX2_compare_45 : decode cX2_compare 45 = .ok (.aload_n 0, 1) := by decide +kernel
theorem dX2_compare_46 : decode cX2_compare 46 = .ok (.getfield 18, 3) := by decide +kernel
theorem dX2_compare_49 : decode cX2_compare 49 = .ok (.invokevirtual 60, 3) := by decide +kernel
theorem dX2_compare_52 : decode cX2_compare 52 = .ok (.lstore 6, 2) := by decide +kernel
theorem dX2_compare_54 : decode cX2_compare 54 = .ok (.aload_n 0, 1) := by decide +kernel
theorem dX2_compare_55 : decode cX2_compare 55 = .ok (.getfield 18, 3) := by decide +kernel
theorem dX2_compare_58 : decode cX2_compare 58 = .ok (.invokevirtual 60, 3) := by decide +kernel
theorem dX2_compare_61 : decode cX2_compare 61 = .ok (.lstore 8, 2) := by decide +kernel
theorem dX2_compare_63 : decode cX2_compare 63 = .ok (.lload 8, 2) := by decide +kernel
theorem dX2_compare_65 : decode cX2_compare 65 = .ok (.lload 6, 2) := by decide +kernel
theorem dX2_compare_67 : decode cX2_compare 67 = .ok (.invokestatic 64, 3) := by decide +kernel
theorem dX2_compare_70 : decode cX2_compare 70 = .ok (.ifCond .eq 6, 3) := by decide +kernel
theorem dX2_compare_73 : decode cX2_compare 73 = .ok (.bipush 7, 2) := by decide +kernel
theorem dX2_compare_75 : decode cX2_compare 75 = .ok (.ireturn, 1) := by decide +kernel
theorem dX2_compare_76 : decode cX2_compare 76 = .ok (.aload_n 0, 1) := by decide +kernel
theorem dX2_compare_77 : decode cX2_compare 77 = .ok (.lload 8, 2) := by decide +kernel
theorem dX2_compare_79 : decode cX2_compare 79 = .ok (.lload 6, 2) := by decide +kernel
theorem dX2_compare_81 : decode cX2_compare 81 = .ok (.invokevirtual 68, 3) := by decide +kernel
theorem dX2_compare_84 : decode cX2_compare 84 = .ok (.iinc 5 1, 3) := by decide +kernel
theorem dX2_compare_87 : decode cX2_compare 87 = .ok (.goto (-60), 3) := by decide +kernel
theorem dX2_compare_90 : decode cX2_compare 90 = .ok (.aload_n 0, 1) := by decide +kernel
theorem dX2_compare_91 : decode cX2_compare 91 = .ok (.getfield 18, 3) := by decide +kernel
theorem dX2_compare_94 : decode cX2_compare 94 = .ok (.invokevirtual 32, 3) := by decide +kernel
theorem dX2_compare_97 : decode cX2_compare 97 = .ok (.ifCond .le 8, 3) := by decide +kernel
theorem dX2_compare_100 : decode cX2_compare 100 = .ok (.bipush 6, 2) := by decide +kernel
theorem dX2_compare_102 : decode cX2_compare 102 = .ok (.goto 4, 3) := by decide +kernel
theorem dX2_compare_105 : decode cX2_compare 105 = .ok (.iconst 0, 1) := by decide +kernel
theorem dX2_compare_106 : decode cX2_compare 106 = .ok (.ireturn, 1) := by decide +kernel
theorem dX2_awaitFields_0 : decode cX2_awaitFields 0 = .ok (.lload_n 1, 1) := by decide +kernel
theorem dX2_awaitFields_1 : decode cX2_awaitFields 1 = .ok (.invokestatic 72, 3) := by decide +kernel
theorem dX2_awaitFields_4 : decode cX2_awaitFields 4 = .ok (.ifCond .ne 4, 3) := by decide +kernel
theorem dX2_awaitFields_7 : decode cX2_awaitFields 7 = .ok (.return_, 1) := by decide +kernel
theorem dX2_awaitFields_8 : decode cX2_awaitFields 8 = .ok (.lload_n 1, 1) := by decide +kernel
theorem dX2_awaitFields_9 : decode cX2_awaitFields 9 = .ok (.invokestatic 76, 3) := by decide +kernel
theorem dX2_awaitFields_12 : decode cX2_awaitFields 12 = .ok (.iconst 1, 1) := by decide +kernel
theorem dX2_awaitFields_13 : decode cX2_awaitFields 13 = .ok (.isub, 1) := by decide +kernel
theorem dX2_awaitFields_14 : decode cX2_awaitFields 14 = .ok (.istore 5, 2) := by decide +kernel
theorem dX2_awaitFields_16 : decode cX2_awaitFields 16 = .ok (.iload 5, 2) := by decide +kernel
theorem dX2_awaitFields_18 : decode cX2_awaitFields 18 = .ok (.ifCond .lt 37, 3) := by decide +kernel
theorem dX2_awaitFields_21 : decode cX2_awaitFields 21 = .ok (.aload_n 0, 1) := by decide +kernel
theorem dX2_awaitFields_22 : decode cX2_awaitFields 22 = .ok (.getfield 18, 3) := by decide +kernel
theorem dX2_awaitFields_25 : decode cX2_awaitFields 25 = .ok (.aload_n 0, 1) := by decide +kernel
theorem dX2_awaitFields_26 : decode cX2_awaitFields 26 = .ok (.lload_n 1, 1) := by decide +kernel
theorem dX2_awaitFields_27 : decode cX2_awaitFields 27 = .ok (.iload 5, 2) := by decide +kernel
theorem dX2_awaitFields_29 : decode cX2_awaitFields 29 = .ok (.invokevirtual 79, 3) := by decide +kernel
theorem dX2_awaitFields_32 : decode cX2_awaitFields 32 = .ok (.invokevirtual 42, 3) := by decide +kernel
theorem dX2_awaitFields_35 : decode cX2_awaitFields 35 = .ok (.aload_n 0, 1) := by decide +kernel
theorem dX2_awaitFields_36 : decode cX2_awaitFields 36 = .ok (.getfield 18, 3) := by decide +kernel
theorem dX2_awaitFields_39 : decode cX2_awaitFields 39 = .ok (.aload_n 0, 1) := by decide +kernel
theorem dX2_awaitFields_40 : decode cX2_awaitFields 40 = .ok (.lload_n 3, 1) := by decide +kernel
theorem dX2_awaitFields_41 : decode cX2_awaitFields 41 = .ok (.iload 5, 2) := by decide +kernel
theorem dX2_awaitFields_43 : decode cX2_awaitFields 43 = .ok (.invokevirtual 79, 3) := by decide +kernel
theorem dX2_awaitFields_46 : decode cX2_awaitFields 46 = .ok (.invokevirtual 42, 3) := by decide +kernel
theorem dX2_awaitFields_49 : decode cX2_awaitFields 49 = .ok (.iinc 5 (-1), 3) := by decide +kernel
theorem dX2_awaitFields_52 : decode cX2_awaitFields 52 = .ok (.goto (-36), 3) := by decide +kernel
theorem dX2_awaitFields_55 : decode cX2_awaitFields 55 = .ok (.return_, 1) := by decide +kernel
theorem dX3_init_0 : decode cX3_init 0 = .ok (.aload_n 0, 1) := by decide +kernel
theorem dX3_init_1 : decode cX3_init 1 = .ok (.invokespecial 1, 3) := by decide +kernel
theorem dX3_init_4 : decode cX3_init 4 = .ok (.aload_n 0, 1) := by decide +kernel
theorem dX3_init_5 : decode cX3_init 5 = .ok (.iload_n 1, 1) := by decide +kernel
theorem dX3_init_6 : decode cX3_init 6 = .ok (.putfield 7, 3) := by decide +kernel
theorem dX3_init_9 : decode cX3_init 9 = .ok (.aload_n 0, 1) := by decide +kernel
theorem dX3_init_10 : decode cX3_init 10 = .ok (.iload_n 2, 1) := by decide +kernel
theorem dX3_init_11 : decode cX3_init 11 = .ok (.putfield 13, 3) := by decide +kernel
theorem dX3_init_14 : decode cX3_init 14 = .ok (.aload_n 0, 1) := by decide +kernel
theorem dX3_init_15 : decode cX3_init 15 = .ok (.iload_n 3, 1) := by decide +kernel
theorem dX3_init_16 : decode cX3_init 16 = .ok (.putfield 16, 3) := by decide +kernel
theorem dX3_init_19 : decode cX3_init 19 = .ok (.aload_n 0, 1) := by decide +kernel
theorem dX3_init_20 : decode cX3_init 20 = .ok (.iload 4, 2) := by decide +kernel
theorem dX3_init_22 : decode cX3_init 22 = .ok (.putfield 19, 3) := by decide +kernel
theorem dX3_init_25 : decode cX3_init 25 = .ok (.aload_n 0, 1) := by decide +kernel
theorem dX3_init_26 : decode cX3_init 26 = .ok (.iload 5, 2) := by decide +kernel
theorem dX3_init_28 : decode cX3_init 28 = .ok (.putfield 22, 3) := by decide +kernel
theorem dX3_init_31 : decode cX3_init 31 = .ok (.aload_n 0, 1) := by decide +kernel
theorem dX3_init_32 : decode cX3_init 32 = .ok (.aload 6, 2) := by decide +kernel
theorem dX3_init_34 : decode cX3_init 34 = .ok (.putfield 25, 3) := by decide +kernel
theorem dX3_init_37 : decode cX3_init 37 = .ok (.return_, 1) := by decide +kernel
theorem dX4_init_0 : decode cX4_init 0 = .ok (.aload_n 0, 1) := by decide +kernel
theorem dX4_init_1 : decode cX4_init 1 = .ok (.invokespecial 1, 3) := by decide +kernel
theorem dX4_init_4 : decode cX4_init 4 = .ok (.aload_n 0, 1) := by decide +kernel
theorem dX4_init_5 : decode cX4_init 5 = .ok (.bipush 32, 2) := by decide +kernel
theorem dX4_init_7 : decode cX4_init 7 = .ok (.newarray .long, 2) := by decide +kernel
theorem dX4_init_9 : decode cX4_init 9 = .ok (.putfield 9, 3) := by decide +kernel
theorem dX4_init_12 : decode cX4_init 12 = .ok (.return_, 1) := by decide +kernel
theorem dX4_size_0 : decode cX4_size 0 = .ok (.aload_n 0, 1) := by decide +kernel
theorem dX4_size_1 : decode cX4_size 1 = .ok (.getfield 13, 3) := by decide +kernel
theorem dX4_size_4 : decode cX4_size 4 = .ok (.ireturn, 1) := by decide +kernel
theorem dX4_at_0 : decode cX4_at 0 = .ok (.iload_n 1, 1) := by decide +kernel
theorem dX4_at_1 : decode cX4_at 1 = .ok (.aload_n 0, 1) := by decide +kernel
theorem dX4_at_2 : decode cX4_at 2 = .ok (.getfield 13, 3) := by decide +kernel
theorem dX4_at_5 : decode cX4_at 5 = .ok (.invokestatic 17, 3) := by decide +kernel
theorem dX4_at_8 : decode cX4_at 8 = .ok (.ifCond .eq 21, 3) := by decide +kernel
theorem dX4_at_11 : decode cX4_at 11 = .ok (.iload_n 1, 1) := by decide +kernel
theorem dX4_at_12 : decode cX4_at 12 = .ok (.aload_n 0, 1) := by decide +kernel
theorem dX4_at_13 : decode cX4_at 13 = .ok (.getfield 9, 3) := by decide +kernel
theorem dX4_at_16 : decode cX4_at 16 = .ok (.arraylength, 1) := by decide +kernel
theorem dX4_at_17 : decode cX4_at 17 = .ok (.if_icmp .ge 12, 3) := by decide +kernel
theorem dX4_at_20 : decode cX4_at 20 = .ok (.aload_n 0, 1) := by decide +kernel
theorem dX4_at_21 : decode cX4_at 21 = .ok (.getfield 9, 3) := by decide +kernel
theorem dX4_at_24 : decode cX4_at 24 = .ok (.iload_n 1, 1) := by decide +kernel
theorem dX4_at_25 : decode cX4_at 25 = .ok (.laload, 1) := by decide +kernel
theorem dX4_at_26 : decode cX4_at 26 = .ok (.goto 4, 3) := by decide +kernel
theorem dX4_at_29 : decode cX4_at 29 = .ok (.lconst 0, 1) := by decide +kernel
theorem dX4_at_30 : decode cX4_at 30 = .ok (.lreturn, 1) := by decide +kernel
theorem dX4_set_0 : decode cX4_set 0 = .ok (.iload_n 1, 1) := by decide +kernel
theorem dX4_set_1 : decode cX4_set 1 = .ok (.aload_n 0, 1) := by decide +kernel
theorem dX4_set_2 : decode cX4_set 2 = .ok (.getfield 13, 3) := by decide +kernel
theorem dX4_set_5 : decode cX4_set 5 = .ok (.invokestatic 17, 3) := by decide +kernel
theorem dX4_set_8 : decode cX4_set 8 = .ok (.ifCond .eq 19, 3) := by decide +kernel
theorem dX4_set_11 : decode cX4_set 11 = .ok (.iload_n 1, 1) := by decide +kernel
theorem dX4_set_12 : decode cX4_set 12 = .ok (.aload_n 0, 1) := by decide +kernel
theorem dX4_set_13 : decode cX4_set 13 = .ok (.getfield 9, 3) := by decide +kernel
theorem dX4_set_16 : decode cX4_set 16 = .ok (.arraylength, 1) := by decide +kernel
theorem dX4_set_17 : decode cX4_set 17 = .ok (.if_icmp .ge 10, 3) := by decide +kernel
theorem dX4_set_20 : decode cX4_set 20 = .ok (.aload_n 0, 1) := by decide +kernel
theorem dX4_set_21 : decode cX4_set 21 = .ok (.getfield 9, 3) := by decide +kernel
theorem dX4_set_24 : decode cX4_set 24 = .ok (.iload_n 1, 1) := by decide +kernel
theorem dX4_set_25 : decode cX4_set 25 = .ok (.lload_n 2, 1) := by decide +kernel
theorem dX4_set_26 : decode cX4_set 26 = .ok (.lastore, 1) := by decide +kernel
theorem dX4_set_27 : decode cX4_set 27 = .ok (.return_, 1) := by decide +kernel
theorem dX4_push_0 : decode cX4_push 0 = .ok (.aload_n 0, 1) := by decide +kernel
theorem dX4_push_1 : decode cX4_push 1 = .ok (.getfield 13, 3) := by decide +kernel
theorem dX4_push_4 : decode cX4_push 4 = .ok (.aload_n 0, 1) := by decide +kernel
theorem dX4_push_5 : decode cX4_push 5 = .ok (.getfield 9, 3) := by decide +kernel
theorem dX4_push_8 : decode cX4_push 8 = .ok (.arraylength, 1) := by decide +kernel
theorem dX4_push_9 : decode cX4_push 9 = .ok (.if_icmp .lt 31, 3) := by decide +kernel
theorem dX4_push_12 : decode cX4_push 12 = .ok (.aload_n 0, 1) := by decide +kernel
theorem dX4_push_13 : decode cX4_push 13 = .ok (.getfield 9, 3) := by decide +kernel
theorem dX4_push_16 : decode cX4_push 16 = .ok (.arraylength, 1) := by decide +kernel
theorem dX4_push_17 : decode cX4_push 17 = .ok (.ldc 23, 2) := by decide +kernel
theorem dX4_push_19 : decode cX4_push 19 = .ok (.if_icmp .ge 21, 3) := by decide +kernel
theorem dX4_push_22 : decode cX4_push 22 = .ok (.aload_n 0, 1) := by decide +kernel
theorem dX4_push_23 : decode cX4_push 23 = .ok (.aload_n 0, 1) := by decide +kernel
theorem dX4_push_24 : decode cX4_push 24 = .ok (.getfield 9, 3) := by decide +kernel
theorem dX4_push_27 : decode cX4_push 27 = .ok (.aload_n 0, 1) := by decide +kernel
theorem dX4_push_28 : decode cX4_push 28 = .ok (.getfield 9, 3) := by decide +kernel
theorem dX4_push_31 : decode cX4_push 31 = .ok (.arraylength, 1) := by decide +kernel
theorem dX4_push_32 : decode cX4_push 32 = .ok (.iconst 2, 1) := by decide +kernel
theorem dX4_push_33 : decode cX4_push 33 = .ok (.imul, 1) := by decide +kernel
theorem dX4_push_34 : decode cX4_push 34 = .ok (.invokestatic 24, 3) := by decide +kernel
theorem dX4_push_37 : decode cX4_push 37 = .ok (.putfield 9, 3) := by decide +kernel
theorem dX4_push_40 : decode cX4_push 40 = .ok (.aload_n 0, 1) := by decide +kernel
theorem dX4_push_41 : decode cX4_push 41 = .ok (.getfield 13, 3) := by decide +kernel
theorem dX4_push_44 : decode cX4_push 44 = .ok (.aload_n 0, 1) := by decide +kernel
theorem dX4_push_45 : decode cX4_push 45 = .ok (.getfield 9, 3) := by decide +kernel
theorem dX4_push_48 : decode cX4_push 48 = .ok (.arraylength, 1) := by decide +kernel
theorem dX4_push_49 : decode cX4_push 49 = .ok (.invokestatic 17, 3) := by decide +kernel
theorem dX4_push_52 : decode cX4_push 52 = .ok (.ifCond .eq 23, 3) := by decide +kernel
theorem dX4_push_55 : decode cX4_push 55 = .ok (.aload_n 0, 1) := by decide +kernel
theorem dX4_push_56 : decode cX4_push 56 = .ok (.getfield 9, 3) := by decide +kernel
theorem dX4_push_59 : decode cX4_push 59 = .ok (.aload_n 0, 1) := by decide +kernel
theorem dX4_push_60 : decode cX4_push 60 = .ok (.getfield 13, 3) := by decide +kernel
theorem dX4_push_63 : decode cX4_push 63 = .ok (.lload_n 1, 1) := by decide +kernel
theorem dX4_push_64 : decode cX4_push 64 = .ok (.lastore, 1) := by decide +kernel
theorem dX4_push_65 : decode cX4_push 65 = .ok (.aload_n 0, 1) := by decide +kernel
theorem dX4_push_66 : decode cX4_push 66 = .ok (.dup, 1) := by decide +kernel
theorem dX4_push_67 : decode cX4_push 67 = .ok (.getfield 13, 3) := by decide +kernel
theorem dX4_push_70 : decode cX4_push 70 = .ok (.iconst 1, 1) := by decide +kernel
theorem dX4_push_71 : decode cX4_push 71 = .ok (.iadd, 1) := by decide +kernel
theorem dX4_push_72 : decode cX4_push 72 = .ok (.putfield 13, 3) := by decide +kernel
theorem dX4_push_75 : decode cX4_push 75 = .ok (.return_, 1) := by decide +kernel
theorem dX4_pop_0 : decode cX4_pop 0 = .ok (.aload_n 0, 1) := by decide +kernel
theorem dX4_pop_1 : decode cX4_pop 1 = .ok (.aload_n 0, 1) := by decide +kernel
theorem dX4_pop_2 : decode cX4_pop 2 = .ok (.getfield 13, 3) := by decide +kernel
theorem dX4_pop_5 : decode cX4_pop 5 = .ok (.iconst 1, 1) := by decide +kernel
theorem dX4_pop_6 : decode cX4_pop 6 = .ok (.isub, 1) := by decide +kernel
theorem dX4_pop_7 : decode cX4_pop 7 = .ok (.invokevirtual 30, 3) := by decide +kernel
theorem dX4_pop_10 : decode cX4_pop 10 = .ok (.lstore_n 1, 1) := by decide +kernel
theorem dX4_pop_11 : decode cX4_pop 11 = .ok (.aload_n 0, 1) := by decide +kernel
theorem dX4_pop_12 : decode cX4_pop 12 = .ok (.aload_n 0, 1) := by decide +kernel
theorem dX4_pop_13 : decode cX4_pop 13 = .ok (.getfield 13, 3) := by decide +kernel
theorem dX4_pop_16 : decode cX4_pop 16 = .ok (.iconst 1, 1) := by decide +kernel
theorem dX4_pop_17 : decode cX4_pop 17 = .ok (.isub, 1) := by decide +kernel
theorem dX4_pop_18 : decode cX4_pop 18 = .ok (.invokevirtual 34, 3) := by decide +kernel
theorem dX4_pop_21 : decode cX4_pop 21 = .ok (.lload_n 1, 1) := by decide +kernel
theorem dX4_pop_22 : decode cX4_pop 22 = .ok (.lreturn, 1) := by decide +kernel
theorem dX4_shrink_0 : decode cX4_shrink 0 = .ok (.iload_n 1, 1) := by decide +kernel
theorem dX4_shrink_1 : decode cX4_shrink 1 = .ok (.aload_n 0, 1) := by decide +kernel
theorem dX4_shrink_2 : decode cX4_shrink 2 = .ok (.getfield 13, 3) := by decide +kernel
theorem dX4_shrink_5 : decode cX4_shrink 5 = .ok (.invokestatic 17, 3) := by decide +kernel
theorem dX4_shrink_8 : decode cX4_shrink 8 = .ok (.ifCond .eq 8, 3) := by decide +kernel
theorem dX4_shrink_11 : decode cX4_shrink 11 = .ok (.aload_n 0, 1) := by decide +kernel
theorem dX4_shrink_12 : decode cX4_shrink 12 = .ok (.iload_n 1, 1) := by decide +kernel
theorem dX4_shrink_13 : decode cX4_shrink 13 = .ok (.putfield 13, 3) := by decide +kernel
theorem dX4_shrink_16 : decode cX4_shrink 16 = .ok (.return_, 1) := by decide +kernel
theorem dX5_init_0 : decode cX5_init 0 = .ok (.aload_n 0, 1) := by decide +kernel
theorem dX5_init_1 : decode cX5_init 1 = .ok (.invokespecial 3, 3) := by decide +kernel
theorem dX5_init_4 : decode cX5_init 4 = .ok (.aload_n 0, 1) := by decide +kernel
theorem dX5_init_5 : decode cX5_init 5 = .ok (.new 9, 3) := by decide +kernel
theorem dX5_init_8 : decode cX5_init 8 = .ok (.dup, 1) := by decide +kernel
theorem dX5_init_9 : decode cX5_init 9 = .ok (.invokespecial 11, 3) := by decide +kernel
theorem dX5_init_12 : decode cX5_init 12 = .ok (.putfield 12, 3) := by decide +kernel
theorem dX5_init_15 : decode cX5_init 15 = .ok (.aload_n 0, 1) := by decide +kernel
theorem dX5_init_16 : decode cX5_init 16 = .ok (.iload_n 1, 1) := by decide +kernel
theorem dX5_init_17 : decode cX5_init 17 = .ok (.putfield 18, 3) := by decide +kernel
theorem dX5_init_20 : decode cX5_init 20 = .ok (.aload_n 0, 1) := by decide +kernel
theorem dX5_init_21 : decode cX5_init 21 = .ok (.iload_n 2, 1) := by decide +kernel
theorem dX5_init_22 : decode cX5_init 22 = .ok (.putfield 22, 3) := by decide +kernel
theorem dX5_init_25 : decode cX5_init 25 = .ok (.aload_n 0, 1) := by decide +kernel
theorem dX5_init_26 : decode cX5_init 26 = .ok (.iload_n 3, 1) := by decide +kernel
theorem dX5_init_27 : decode cX5_init 27 = .ok (.putfield 26, 3) := by decide +kernel
theorem dX5_init_30 : decode cX5_init 30 = .ok (.aload_n 0, 1) := by decide +kernel
theorem dX5_init_31 : decode cX5_init 31 = .ok (.aload 4, 2) := by decide +kernel
theorem dX5_init_33 : decode cX5_init 33 = .ok (.putfield 29, 3) := by decide +kernel
theorem dX5_init_36 : decode cX5_init 36 = .ok (.return_, 1) := by decide +kernel
theorem dX5_fits_0 : decode cX5_fits 0 = .ok (.iload_n 0, 1) := by decide +kernel
theorem dX5_fits_1 : decode cX5_fits 1 = .ok (.iconst 1, 1) := by decide +kernel
theorem dX5_fits_2 : decode cX5_fits 2 = .ok (.if_icmp .lt 46, 3) := by decide +kernel
theorem dX5_fits_5 : decode cX5_fits 5 = .ok (.iload_n 0, 1) := by decide +kernel
theorem dX5_fits_6 : decode cX5_fits 6 = .ok (.bipush 40, 2) := by decide +kernel
theorem dX5_fits_8 : decode cX5_fits 8 = .ok (.if_icmp .gt 40, 3) := by decide +kernel
theorem dX5_fits_11 : decode cX5_fits 11 = .ok (.iload_n 1, 1) := by decide +kernel
theorem dX5_fits_12 : decode cX5_fits 12 = .ok (.ifCond .lt 36, 3) := by decide +kernel
theorem dX5_fits_15 : decode cX5_fits 15 = .ok (.iload_n 1, 1) := by decide +kernel
theorem dX5_fits_16 : decode cX5_fits 16 = .ok (.iload_n 0, 1) := by decide +kernel
theorem dX5_fits_17 : decode cX5_fits 17 = .ok (.if_icmp .gt 31, 3) := by decide +kernel
theorem dX5_fits_20 : decode cX5_fits 20 = .ok (.aload_n 2, 1) := by decide +kernel
theorem dX5_fits_21 : decode cX5_fits 21 = .ok (.arraylength, 1) := by decide +kernel
theorem dX5_fits_22 : decode cX5_fits 22 = .ok (.bipush 8, 2) := by decide +kernel
theorem dX5_fits_24 : decode cX5_fits 24 = .ok (.if_icmp .gt 24, 3) := by decide +kernel
theorem dX5_fits_27 : decode cX5_fits 27 = .ok (.iload_n 1, 1) := by decide +kernel
theorem dX5_fits_28 : decode cX5_fits 28 = .ok (.aload_n 2, 1) := by decide +kernel
theorem dX5_fits_29 : decode cX5_fits 29 = .ok (.arraylength, 1) := by decide +kernel
theorem dX5_fits_30 : decode cX5_fits 30 = .ok (.iadd, 1) := by decide +kernel
theorem dX5_fits_31 : decode cX5_fits 31 = .ok (.bipush 10, 2) := by decide +kernel
theorem dX5_fits_33 : decode cX5_fits 33 = .ok (.if_icmp .gt 15, 3) := by decide +kernel
theorem dX5_fits_36 : decode cX5_fits 36 = .ok (.aload_n 2, 1) := by decide +kernel
theorem dX5_fits_37 : decode cX5_fits 37 = .ok (.iload_n 0, 1) := by decide +kernel
theorem dX5_fits_38 : decode cX5_fits 38 = .ok (.invokestatic 33, 3) := by decide +kernel
theorem dX5_fits_41 : decode cX5_fits 41 = .ok (.ifCond .eq 7, 3) := by decide +kernel
theorem dX5_fits_44 : decode cX5_fits 44 = .ok (.iconst 1, 1) := by decide +kernel
theorem dX5_fits_45 : decode cX5_fits 45 = .ok (.goto 4, 3) := by decide +kernel
theorem dX5_fits_48 : decode cX5_fits 48 = .ok (.iconst 0, 1) := by decide +kernel
theorem dX5_fits_49 : decode cX5_fits 49 = .ok (.ireturn, 1) := by decide +kernel
theorem dX5_allWithin_0 : decode cX5_allWithin 0 = .ok (.aload_n 0, 1) := by decide +kernel
theorem dX5_allWithin_1 : decode cX5_allWithin 1 = .ok (.astore_n 2, 1) := by decide +kernel
theorem dX5_allWithin_2 : decode cX5_allWithin 2 = .ok (.aload_n 2, 1) := by decide +kernel
theorem dX5_allWithin_3 : decode cX5_allWithin 3 = .ok (.arraylength, 1) := by decide +kernel
theorem dX5_allWithin_4 : decode cX5_allWithin 4 = .ok (.istore_n 3, 1) := by decide +kernel
theorem dX5_allWithin_5 : decode cX5_allWithin 5 = .ok (.iconst 0, 1) := by decide +kernel
theorem dX5_allWithin_6 : decode cX5_allWithin 6 = .ok (.istore 4, 2) := by decide +kernel
theorem dX5_allWithin_8 : decode cX5_allWithin 8 = .ok (.iload 4, 2) := by decide +kernel
theorem dX5_allWithin_10 : decode cX5_allWithin 10 = .ok (.iload_n 3, 1) := by decide +kernel
theorem dX5_allWithin_11 : decode cX5_allWithin 11 = .ok (.if_icmp .ge 26, 3) := by decide +kernel
theorem dX5_allWithin_14 : decode cX5_allWithin 14 = .ok (.aload_n 2, 1) := by decide +kernel
theorem dX5_allWithin_15 : decode cX5_allWithin 15 = .ok (.iload 4, 2) := by decide +kernel
theorem dX5_allWithin_17 : decode cX5_allWithin 17 = .ok (.iaload, 1) := by decide +kernel
theorem dX5_allWithin_18 : decode cX5_allWithin 18 = .ok (.istore 5, 2) := by decide +kernel
theorem dX5_allWithin_20 : decode cX5_allWithin 20 = .ok (.iload 5, 2) := by decide +kernel
theorem dX5_allWithin_22 : decode cX5_allWithin 22 = .ok (.iload_n 1, 1) := by decide +kernel
theorem dX5_allWithin_23 : decode cX5_allWithin 23 = .ok (.invokestatic 37, 3) := by decide +kernel
theorem dX5_allWithin_26 : decode cX5_allWithin 26 = .ok (.ifCond .ne 5, 3) := by decide +kernel
theorem dX5_allWithin_29 : decode cX5_allWithin 29 = .ok (.iconst 0, 1) := by decide +kernel
theorem dX5_allWithin_30 : decode cX5_allWithin 30 = .ok (.ireturn, 1) := by decide +kernel
theorem dX5_allWithin_31 : decode cX5_allWithin 31 = .ok (.iinc 4 1, 3) := by decide +kernel
theorem dX5_allWithin_34 : decode cX5_allWithin 34 = .ok (.goto (-26), 3) := by decide +kernel
theorem dX5_allWithin_37 : decode cX5_allWithin 37 = .ok (.iconst 1, 1) := by decide +kernel
theorem dX5_allWithin_38 : decode cX5_allWithin 38 = .ok (.ireturn, 1) := by decide +kernel
theorem dX5_frameSize_0 : decode cX5_frameSize 0 = .ok (.iconst 2, 1) := by decide +kernel
theorem dX5_frameSize_1 : decode cX5_frameSize 1 = .ok (.aload_n 0, 1) := by decide +kernel
theorem dX5_frameSize_2 : decode cX5_frameSize 2 = .ok (.getfield 22, 3) := by decide +kernel
theorem dX5_frameSize_5 : decode cX5_frameSize 5 = .ok (.iadd, 1) := by decide +kernel
theorem dX5_frameSize_6 : decode cX5_frameSize 6 = .ok (.ireturn, 1) := by decide +kernel
theorem dX5_append_0 : decode cX5_append 0 = .ok (.aload_n 0, 1) := by decide +kernel
theorem dX5_append_1 : decode cX5_append 1 = .ok (.getfield 12, 3) := by decide +kernel
theorem dX5_append_4 : decode cX5_append 4 = .ok (.aload_n 1, 1) := by decide +kernel
theorem dX5_append_5 : decode cX5_append 5 = .ok (.invokevirtual 41, 3) := by decide +kernel
theorem dX5_append_8 : decode cX5_append 8 = .ok (.pop, 1) := by decide +kernel
theorem dX5_append_9 : decode cX5_append 9 = .ok (.aload_n 0, 1) := by decide +kernel
theorem dX5_append_10 : decode cX5_append 10 = .ok (.getfield 12, 3) := by decide +kernel
theorem dX5_append_13 : decode cX5_append 13 = .ok (.invokevirtual 45, 3) := by decide +kernel
theorem dX5_append_16 : decode cX5_append 16 = .ok (.iconst 1, 1) := by decide +kernel
theorem dX5_append_17 : decode cX5_append 17 = .ok (.isub, 1) := by decide +kernel
theorem dX5_append_18 : decode cX5_append 18 = .ok (.ireturn, 1) := by decide +kernel
theorem dX5_instructionAt_0 : decode cX5_instructionAt 0 = .ok (.iload_n 1, 1) := by decide +kernel
theorem dX5_instructionAt_1 : decode cX5_instructionAt 1 = .ok (.aload_n 0, 1) := by decide +kernel
theorem dX5_instructionAt_2 : decode cX5_instructionAt 2 = .ok (.getfield 12, 3) := by decide +kernel
theorem dX5_instructionAt_5 : decode cX5_instructionAt 5 = .ok (.invokevirtual 45, 3) := by decide +kernel
theorem dX5_instructionAt_8 : decode cX5_instructionAt 8 = .ok (.invokestatic 37, 3) := by decide +kernel
theorem dX5_instructionAt_11 : decode cX5_instructionAt 11 = .ok (.ifCond .eq 17, 3) := by decide +kernel
theorem dX5_instructionAt_14 : decode cX5_instructionAt 14 = .ok (.aload_n 0, 1) := by decide +kernel
theorem dX5_instructionAt_15 : decode cX5_instructionAt 15 = .ok (.getfield 12, 3) := by decide +kernel
theorem dX5_instructionAt_18 : decode cX5_instructionAt 18 = .ok (.iload_n 1, 1) := by decide +kernel
theorem dX5_instructionAt_19 : decode cX5_instructionAt 19 = .ok (.invokevirtual 49, 3) := by decide +kernel
theorem dX5_instructionAt_22 : decode cX5_instructionAt 22 = .ok (.checkcast 53, 3) := by decide +kernel
theorem dX5_instructionAt_25 : decode cX5_instructionAt 25 = .ok (.goto 4, 3) := by decide +kernel
theorem dX5_instructionAt_28 : decode cX5_instructionAt 28 = .ok (.aconst_null, 1) := by decide +kernel
theorem dX5_instructionAt_29 : decode cX5_instructionAt 29 = .ok (.areturn, 1) := by decide +kernel
theorem dX5_admits_0 : decode cX5_admits 0 = .ok (.aload_n 1, 1) := by decide +kernel
theorem dX5_admits_1 : decode cX5_admits 1 = .ok (.getfield 55, 3) := by decide +kernel
theorem dX5_admits_4 : decode cX5_admits 4 = .ok (.tableswitch 320 0 15 #[80, 89, 117, 117, 89, 169, 219, 259, 270, 259, 312, 80, 80, 80, 318, 318], 80) := by decide +kernel
theorem dX5_admits_84 : decode cX5_admits 84 = .ok (.aload_n 0, 1) := by decide +kernel
theorem dX5_admits_85 : decode cX5_admits 85 = .ok (.aload_n 1, 1) := by decide +kernel
theorem dX5_admits_86 : decode cX5_admits 86 = .ok (.getfield 58, 3) := by decide +kernel
theorem dX5_admits_89 : decode cX5_admits 89 = .ok (.invokevirtual 61, 3) := by decide +kernel
theorem dX5_admits_92 : decode cX5_admits 92 = .ok (.ireturn, 1) := by decide +kernel
theorem dX5_admits_93 : decode cX5_admits 93 = .ok (.aload_n 0, 1) := by decide +kernel
theorem dX5_admits_94 : decode cX5_admits 94 = .ok (.aload_n 1, 1) := by decide +kernel
theorem dX5_admits_95 : decode cX5_admits 95 = .ok (.getfield 58, 3) := by decide +kernel
theorem dX5_admits_98 : decode cX5_admits 98 = .ok (.invokevirtual 61, 3) := by decide +kernel
theorem dX5_admits_101 : decode cX5_admits 101 = .ok (.ifCond .eq 18, 3) := by decide +kernel
theorem dX5_admits_104 : decode cX5_admits 104 = .ok (.aload_n 0, 1) := by decide +kernel
theorem dX5_admits_105 : decode cX5_admits 105 = .ok (.aload_n 1, 1) := by decide +kernel
theorem dX5_admits_106 : decode cX5_admits 106 = .ok (.getfield 65, 3) := by decide +kernel
theorem dX5_admits_109 : decode cX5_admits 109 = .ok (.invokevirtual 61, 3) := by decide +kernel
theorem dX5_admits_112 : decode cX5_admits 112 = .ok (.ifCond .eq 7, 3) := by decide +kernel
theorem dX5_admits_115 : decode cX5_admits 115 = .ok (.iconst 1, 1) := by decide +kernel
theorem dX5_admits_116 : decode cX5_admits 116 = .ok (.goto 4, 3) := by decide +kernel
theorem dX5_admits_119 : decode cX5_admits 119 = .ok (.iconst 0, 1) := by decide +kernel
theorem dX5_admits_120 : decode cX5_admits 120 = .ok (.ireturn, 1) := by decide +kernel
theorem dX5_admits_121 : decode cX5_admits 121 = .ok (.aload_n 0, 1) := by decide +kernel
theorem dX5_admits_122 : decode cX5_admits 122 = .ok (.aload_n 1, 1) := by decide +kernel
theorem dX5_admits_123 : decode cX5_admits 123 = .ok (.getfield 58, 3) := by decide +kernel
theorem dX5_admits_126 : decode cX5_admits 126 = .ok (.invokevirtual 61, 3) := by decide +kernel
theorem dX5_admits_129 : decode cX5_admits 129 = .ok (.ifCond .eq 42, 3) := by decide +kernel
theorem dX5_admits_132 : decode cX5_admits 132 = .ok (.aload_n 1, 1) := by decide +kernel
theorem dX5_admits_133 : decode cX5_admits 133 = .ok (.getfield 65, 3) := by decide +kernel
theorem dX5_admits_136 : decode cX5_admits 136 = .ok (.bipush 32, 2) := by decide +kernel
theorem dX5_admits_138 : decode cX5_admits 138 = .ok (.invokestatic 37, 3) := by decide +kernel
theorem dX5_admits_141 : decode cX5_admits 141 = .ok (.ifCond .eq 30, 3) := by decide +kernel
theorem dX5_admits_144 : decode cX5_admits 144 = .ok (.aload_n 1, 1) := by decide +kernel
theorem dX5_admits_145 : decode cX5_admits 145 = .ok (.getfield 68, 3) := by decide +kernel
theorem dX5_admits_148 : decode cX5_admits 148 = .ok (.arraylength, 1) := by decide +kernel
theorem dX5_admits_149 : decode cX5_admits 149 = .ok (.iconst 4, 1) := by decide +kernel
theorem dX5_admits_150 : decode cX5_admits 150 = .ok (.if_icmp .gt 21, 3) := by decide +kernel
theorem dX5_admits_153 : decode cX5_admits 153 = .ok (.aload_n 1, 1) := by decide +kernel
theorem dX5_admits_154 : decode cX5_admits 154 = .ok (.getfield 68, 3) := by decide +kernel
theorem dX5_admits_157 : decode cX5_admits 157 = .ok (.aload_n 0, 1) := by decide +kernel
theorem dX5_admits_158 : decode cX5_admits 158 = .ok (.getfield 22, 3) := by decide +kernel
theorem dX5_admits_161 : decode cX5_admits 161 = .ok (.invokestatic 33, 3) := by decide +kernel
theorem dX5_admits_164 : decode cX5_admits 164 = .ok (.ifCond .eq 7, 3) := by decide +kernel
theorem dX5_admits_167 : decode cX5_admits 167 = .ok (.iconst 1, 1) := by decide +kernel
theorem dX5_admits_168 : decode cX5_admits 168 = .ok (.goto 4, 3) := by decide +kernel
theorem dX5_admits_171 : decode cX5_admits 171 = .ok (.iconst 0, 1) := by decide +kernel
theorem dX5_admits_172 : decode cX5_admits 172 = .ok (.ireturn, 1) := by decide +kernel
theorem dX5_admits_173 : decode cX5_admits 173 = .ok (.aload_n 0, 1) := by decide +kernel
theorem dX5_admits_174 : decode cX5_admits 174 = .ok (.aload_n 1, 1) := by decide +kernel
theorem dX5_admits_175 : decode cX5_admits 175 = .ok (.getfield 58, 3) := by decide +kernel
theorem dX5_admits_178 : decode cX5_admits 178 = .ok (.invokevirtual 61, 3) := by decide +kernel
theorem dX5_admits_181 : decode cX5_admits 181 = .ok (.ifCond .eq 40, 3) := by decide +kernel
theorem dX5_admits_184 : decode cX5_admits 184 = .ok (.aload_n 0, 1) := by decide +kernel
theorem dX5_admits_185 : decode cX5_admits 185 = .ok (.aload_n 1, 1) := by decide +kernel
theorem dX5_admits_186 : decode cX5_admits 186 = .ok (.getfield 65, 3) := by decide +kernel
theorem dX5_admits_189 : decode cX5_admits 189 = .ok (.invokevirtual 61, 3) := by decide +kernel
theorem dX5_admits_192 : decode cX5_admits 192 = .ok (.ifCond .eq 29, 3) := by decide +kernel
theorem dX5_admits_195 : decode cX5_admits 195 = .ok (.aload_n 0, 1) := by decide +kernel
theorem dX5_admits_196 : decode cX5_admits 196 = .ok (.aload_n 1, 1) := by decide +kernel
theorem dX5_admits_197 : decode cX5_admits 197 = .ok (.getfield 71, 3) := by decide +kernel
theorem dX5_admits_200 : decode cX5_admits 200 = .ok (.invokevirtual 61, 3) := by decide +kernel
theorem dX5_admits_203 : decode cX5_admits 203 = .ok (.ifCond .eq 18, 3) := by decide +kernel
theorem dX5_admits_206 : decode cX5_admits 206 = .ok (.aload_n 1, 1) := by decide +kernel
theorem dX5_admits_207 : decode cX5_admits 207 = .ok (.getfield 74, 3) := by decide +kernel
theorem dX5_admits_210 : decode cX5_admits 210 = .ok (.iconst 5, 1) := by decide +kernel
theorem dX5_admits_211 : decode cX5_admits 211 = .ok (.invokestatic 37, 3) := by decide +kernel
theorem dX5_admits_214 : decode cX5_admits 214 = .ok (.ifCond .eq 7, 3) := by decide +kernel
theorem dX5_admits_217 : decode cX5_admits 217 = .ok (.iconst 1, 1) := by decide +kernel
theorem dX5_admits_218 : decode cX5_admits 218 = .ok (.goto 4, 3) := by decide +kernel
theorem dX5_admits_221 : decode cX5_admits 221 = .ok (.iconst 0, 1) := by decide +kernel
theorem dX5_admits_222 : decode cX5_admits 222 = .ok (.ireturn, 1) := by decide +kernel
theorem dX5_admits_223 : decode cX5_admits 223 = .ok (.aload_n 0, 1) := by decide +kernel
theorem dX5_admits_224 : decode cX5_admits 224 = .ok (.aload_n 1, 1) := by decide +kernel
theorem dX5_admits_225 : decode cX5_admits 225 = .ok (.getfield 58, 3) := by decide +kernel
theorem dX5_admits_228 : decode cX5_admits 228 = .ok (.invokevirtual 61, 3) := by decide +kernel
theorem dX5_admits_231 : decode cX5_admits 231 = .ok (.ifCond .eq 30, 3) := by decide +kernel
theorem dX5_admits_234 : decode cX5_admits 234 = .ok (.aload_n 0, 1) := by decide +kernel
theorem dX5_admits_235 : decode cX5_admits 235 = .ok (.aload_n 1, 1) := by decide +kernel
theorem dX5_admits_236 : decode cX5_admits 236 = .ok (.getfield 65, 3) := by decide +kernel
theorem dX5_admits_239 : decode cX5_admits 239 = .ok (.invokevirtual 61, 3) := by decide +kernel
theorem dX5_admits_242 : decode cX5_admits 242 = .ok (.ifCond .eq 19, 3) := by decide +kernel
theorem dX5_admits_245 : decode cX5_admits 245 = .ok (.aload_n 1, 1) := by decide +kernel
theorem dX5_admits_246 : decode cX5_admits 246 = .ok (.getfield 71, 3) := by decide +kernel
theorem dX5_admits_249 : decode cX5_admits 249 = .ok (.bipush 6, 2) := by decide +kernel
theorem dX5_admits_251 : decode cX5_admits 251 = .ok (.invokestatic 37, 3) := by decide +kernel
theorem dX5_admits_254 : decode cX5_admits 254 = .ok (.ifCond .eq 7, 3) := by decide +kernel
theorem dX5_admits_257 : decode cX5_admits 257 = .ok (.iconst 1, 1) := by decide +kernel
theorem dX5_admits_258 : decode cX5_admits 258 = .ok (.goto 4, 3) := by decide +kernel
theorem dX5_admits_261 : decode cX5_admits 261 = .ok (.iconst 0, 1) := by decide +kernel
theorem dX5_admits_262 : decode cX5_admits 262 = .ok (.ireturn, 1) := by decide +kernel
theorem dX5_admits_263 : decode cX5_admits 263 = .ok (.aload_n 1, 1) := by decide +kernel
theorem dX5_admits_264 : decode cX5_admits 264 = .ok (.getfield 58, 3) := by decide +kernel
theorem dX5_admits_267 : decode cX5_admits 267 = .ok (.sipush 2000, 3) := by decide +kernel
theorem dX5_admits_270 : decode cX5_admits 270 = .ok (.invokestatic 37, 3) := by decide +kernel
theorem dX5_admits_273 : decode cX5_admits 273 = .ok (.ireturn, 1) := by decide +kernel
theorem dX5_admits_274 : decode cX5_admits 274 = .ok (.aload_n 0, 1) := by decide +kernel
theorem dX5_admits_275 : decode cX5_admits 275 = .ok (.aload_n 1, 1) := by decide +kernel
theorem dX5_admits_276 : decode cX5_admits 276 = .ok (.getfield 58, 3) := by decide +kernel
theorem dX5_admits_279 : decode cX5_admits 279 = .ok (.invokevirtual 61, 3) := by decide +kernel
theorem dX5_admits_282 : decode cX5_admits 282 = .ok (.ifCond .eq 32, 3) := by decide +kernel
theorem dX5_admits_285 : decode cX5_admits 285 = .ok (.aload_n 1, 1) := by decide +kernel
theorem dX5_admits_286 : decode cX5_admits 286 = .ok (.getfield 65, 3) := by decide +kernel
theorem dX5_admits_289 : decode cX5_admits 289 = .ok (.bipush 32, 2) := by decide +kernel
theorem dX5_admits_291 : decode cX5_admits 291 = .ok (.invokestatic 37, 3) := by decide +kernel
theorem dX5_admits_294 : decode cX5_admits 294 = .ok (.ifCond .eq 20, 3) := by decide +kernel
theorem dX5_admits_297 : decode cX5_admits 297 = .ok (.aload_n 1, 1) := by decide +kernel
theorem dX5_admits_298 : decode cX5_admits 298 = .ok (.getfield 71, 3) := by decide +kernel
theorem dX5_admits_301 : decode cX5_admits 301 = .ok (.sipush 2000, 3) := by decide +kernel
theorem dX5_admits_304 : decode cX5_admits 304 = .ok (.invokestatic 37, 3) := by decide +kernel
theorem dX5_admits_307 : decode cX5_admits 307 = .ok (.ifCond .eq 7, 3) := by decide +kernel
theorem dX5_admits_310 : decode cX5_admits 310 = .ok (.iconst 1, 1) := by decide +kernel
theorem dX5_admits_311 : decode cX5_admits 311 = .ok (.goto 4, 3) := by decide +kernel
theorem dX5_admits_314 : decode cX5_admits 314 = .ok (.iconst 0, 1) := by decide +kernel
theorem dX5_admits_315 : decode cX5_admits 315 = .ok (.ireturn, 1) := by decide +kernel
theorem dX5_admits_316 : decode cX5_admits 316 = .ok (.aload_n 0, 1) := by decide +kernel
theorem dX5_admits_317 : decode cX5_admits 317 = .ok (.aload_n 1, 1) := by decide +kernel
theorem dX5_admits_318 : decode cX5_admits 318 = .ok (.invokevirtual 77, 3) := by decide +kernel
theorem dX5_admits_321 : decode cX5_admits 321 = .ok (.ireturn, 1) := by decide +kernel
theorem dX5_admits_322 : decode cX5_admits 322 = .ok (.iconst 1, 1) := by decide +kernel
theorem dX5_admits_323 : decode cX5_admits 323 = .ok (.ireturn, 1) := by decide +kernel
theorem dX5_admits_324 : decode cX5_admits 324 = .ok (.iconst 0, 1) := by decide +kernel
theorem dX5_admits_325 : decode cX5_admits 325 = .ok (.ireturn, 1) := by decide +kernel
theorem dX5_admitsCall_0 : decode cX5_admitsCall 0 = .ok (.aload_n 1, 1) := by decide +kernel
theorem dX5_admitsCall_1 : decode cX5_admitsCall 1 = .ok (.getfield 81, 3) := by decide +kernel
theorem dX5_admitsCall_4 : decode cX5_admitsCall 4 = .ok (.astore_n 2, 1) := by decide +kernel
theorem dX5_admitsCall_5 : decode cX5_admitsCall 5 = .ok (.aload_n 2, 1) := by decide +kernel
theorem dX5_admitsCall_6 : decode cX5_admitsCall 6 = .ok (.ifnull 39, 3) := by decide +kernel
theorem dX5_admitsCall_9 : decode cX5_admitsCall 9 = .ok (.aload_n 1, 1) := by decide +kernel
theorem dX5_admitsCall_10 : decode cX5_admitsCall 10 = .ok (.getfield 68, 3) := by decide +kernel
theorem dX5_admitsCall_13 : decode cX5_admitsCall 13 = .ok (.arraylength, 1) := by decide +kernel
theorem dX5_admitsCall_14 : decode cX5_admitsCall 14 = .ok (.aload_n 2, 1) := by decide +kernel
theorem dX5_admitsCall_15 : decode cX5_admitsCall 15 = .ok (.getfield 26, 3) := by decide +kernel
theorem dX5_admitsCall_18 : decode cX5_admitsCall 18 = .ok (.aload_n 2, 1) := by decide +kernel
theorem dX5_admitsCall_19 : decode cX5_admitsCall 19 = .ok (.getfield 29, 3) := by decide +kernel
theorem dX5_admitsCall_22 : decode cX5_admitsCall 22 = .ok (.arraylength, 1) := by decide +kernel
theorem dX5_admitsCall_23 : decode cX5_admitsCall 23 = .ok (.iadd, 1) := by decide +kernel
theorem dX5_admitsCall_24 : decode cX5_admitsCall 24 = .ok (.if_icmp .ne 21, 3) := by decide +kernel
theorem dX5_admitsCall_27 : decode cX5_admitsCall 27 = .ok (.aload_n 1, 1) := by decide +kernel
theorem dX5_admitsCall_28 : decode cX5_admitsCall 28 = .ok (.getfield 68, 3) := by decide +kernel
theorem dX5_admitsCall_31 : decode cX5_admitsCall 31 = .ok (.aload_n 0, 1) := by decide +kernel
theorem dX5_admitsCall_32 : decode cX5_admitsCall 32 = .ok (.getfield 22, 3) := by decide +kernel
theorem dX5_admitsCall_35 : decode cX5_admitsCall 35 = .ok (.invokestatic 33, 3) := by decide +kernel
theorem dX5_admitsCall_38 : decode cX5_admitsCall 38 = .ok (.ifCond .eq 7, 3) := by decide +kernel
theorem dX5_admitsCall_41 : decode cX5_admitsCall 41 = .ok (.iconst 1, 1) := by decide +kernel
theorem dX5_admitsCall_42 : decode cX5_admitsCall 42 = .ok (.goto 4, 3) := by decide +kernel
theorem dX5_admitsCall_45 : decode cX5_admitsCall 45 = .ok (.iconst 0, 1) := by decide +kernel
theorem dX5_admitsCall_46 : decode cX5_admitsCall 46 = .ok (.ireturn, 1) := by decide +kernel
theorem dX5_hasSlot_0 : decode cX5_hasSlot 0 = .ok (.iload_n 1, 1) := by decide +kernel
theorem dX5_hasSlot_1 : decode cX5_hasSlot 1 = .ok (.aload_n 0, 1) := by decide +kernel
theorem dX5_hasSlot_2 : decode cX5_hasSlot 2 = .ok (.getfield 22, 3) := by decide +kernel
theorem dX5_hasSlot_5 : decode cX5_hasSlot 5 = .ok (.invokestatic 37, 3) := by decide +kernel
theorem dX5_hasSlot_8 : decode cX5_hasSlot 8 = .ok (.ireturn, 1) := by decide +kernel
theorem dX6_init_0 : decode cX6_init 0 = .ok (.aload_n 0, 1) := by decide +kernel
theorem dX6_init_1 : decode cX6_init 1 = .ok (.invokespecial 1, 3) := by decide +kernel
theorem dX6_init_4 : decode cX6_init 4 = .ok (.aload_n 0, 1) := by decide +kernel
theorem dX6_init_5 : decode cX6_init 5 = .ok (.aload_n 1, 1) := by decide +kernel
theorem dX6_init_6 : decode cX6_init 6 = .ok (.putfield 7, 3) := by decide +kernel
theorem dX6_init_9 : decode cX6_init 9 = .ok (.return_, 1) := by decide +kernel
theorem dX7_init_0 : decode cX7_init 0 = .ok (.aload_n 0, 1) := by decide +kernel
theorem dX7_init_1 : decode cX7_init 1 = .ok (.invokespecial 3, 3) := by decide +kernel
theorem dX7_init_4 : decode cX7_init 4 = .ok (.aload_n 0, 1) := by decide +kernel
theorem dX7_init_5 : decode cX7_init 5 = .ok (.new 9, 3) := by decide +kernel
theorem dX7_init_8 : decode cX7_init 8 = .ok (.dup, 1) := by decide +kernel
theorem dX7_init_9 : decode cX7_init 9 = .ok (.invokespecial 11, 3) := by decide +kernel
theorem dX7_init_12 : decode cX7_init 12 = .ok (.putfield 12, 3) := by decide +kernel
theorem dX7_init_15 : decode cX7_init 15 = .ok (.aload_n 0, 1) := by decide +kernel
theorem dX7_init_16 : decode cX7_init 16 = .ok (.new 9, 3) := by decide +kernel
theorem dX7_init_19 : decode cX7_init 19 = .ok (.dup, 1) := by decide +kernel
theorem dX7_init_20 : decode cX7_init 20 = .ok (.invokespecial 11, 3) := by decide +kernel
theorem dX7_init_23 : decode cX7_init 23 = .ok (.putfield 18, 3) := by decide +kernel
theorem dX7_init_26 : decode cX7_init 26 = .ok (.aload_n 0, 1) := by decide +kernel
theorem dX7_init_27 : decode cX7_init 27 = .ok (.new 21, 3) := by decide +kernel
theorem dX7_init_30 : decode cX7_init 30 = .ok (.dup, 1) := by decide +kernel
theorem dX7_init_31 : decode cX7_init 31 = .ok (.invokespecial 23, 3) := by decide +kernel
theorem dX7_init_34 : decode cX7_init 34 = .ok (.putfield 24, 3) := by decide +kernel
theorem dX7_init_37 : decode cX7_init 37 = .ok (.aload_n 0, 1) := by decide +kernel
theorem dX7_init_38 : decode cX7_init 38 = .ok (.new 21, 3) := by decide +kernel
theorem dX7_init_41 : decode cX7_init 41 = .ok (.dup, 1) := by decide +kernel
theorem dX7_init_42 : decode cX7_init 42 = .ok (.invokespecial 23, 3) := by decide +kernel
theorem dX7_init_45 : decode cX7_init 45 = .ok (.putfield 28, 3) := by decide +kernel
theorem dX7_init_48 : decode cX7_init 48 = .ok (.return_, 1) := by decide +kernel
theorem dX7_clear_0 : decode cX7_clear 0 = .ok (.aload_n 0, 1) := by decide +kernel
theorem dX7_clear_1 : decode cX7_clear 1 = .ok (.iconst 0, 1) := by decide +kernel
theorem dX7_clear_2 : decode cX7_clear 2 = .ok (.putfield 31, 3) := by decide +kernel
theorem dX7_clear_5 : decode cX7_clear 5 = .ok (.aload_n 0, 1) := by decide +kernel
theorem dX7_clear_6 : decode cX7_clear 6 = .ok (.iconst 0, 1) := by decide +kernel
theorem dX7_clear_7 : decode cX7_clear 7 = .ok (.putfield 35, 3) := by decide +kernel
theorem dX7_clear_10 : decode cX7_clear 10 = .ok (.aload_n 0, 1) := by decide +kernel
theorem dX7_clear_11 : decode cX7_clear 11 = .ok (.getfield 24, 3) := by decide +kernel
theorem dX7_clear_14 : decode cX7_clear 14 = .ok (.iconst 0, 1) := by decide +kernel
theorem dX7_clear_15 : decode cX7_clear 15 = .ok (.invokevirtual 38, 3) := by decide +kernel
theorem dX7_clear_18 : decode cX7_clear 18 = .ok (.aload_n 0, 1) := by decide +kernel
theorem dX7_clear_19 : decode cX7_clear 19 = .ok (.getfield 28, 3) := by decide +kernel
theorem dX7_clear_22 : decode cX7_clear 22 = .ok (.iconst 0, 1) := by decide +kernel
theorem dX7_clear_23 : decode cX7_clear 23 = .ok (.invokevirtual 38, 3) := by decide +kernel
theorem dX7_clear_26 : decode cX7_clear 26 = .ok (.aload_n 0, 1) := by decide +kernel
theorem dX7_clear_27 : decode cX7_clear 27 = .ok (.iload_n 1, 1) := by decide +kernel
theorem dX7_clear_28 : decode cX7_clear 28 = .ok (.putfield 42, 3) := by decide +kernel
theorem dX7_clear_31 : decode cX7_clear 31 = .ok (.aload_n 0, 1) := by decide +kernel
theorem dX7_clear_32 : decode cX7_clear 32 = .ok (.iconst 0, 1) := by decide +kernel
theorem dX7_clear_33 : decode cX7_clear 33 = .ok (.putfield 45, 3) := by decide +kernel
theorem dX7_clear_36 : decode cX7_clear 36 = .ok (.return_, 1) := by decide +kernel
theorem dX7_size_0 : decode cX7_size 0 = .ok (.aload_n 0, 1) := by decide +kernel
theorem dX7_size_1 : decode cX7_size 1 = .ok (.getfield 24, 3) := by decide +kernel
theorem dX7_size_4 : decode cX7_size 4 = .ok (.invokevirtual 48, 3) := by decide +kernel
theorem dX7_size_7 : decode cX7_size 7 = .ok (.iconst 2, 1) := by decide +kernel
theorem dX7_size_8 : decode cX7_size 8 = .ok (.aload_n 0, 1) := by decide +kernel
theorem dX7_size_9 : decode cX7_size 9 = .ok (.getfield 31, 3) := by decide +kernel
theorem dX7_size_12 : decode cX7_size 12 = .ok (.imul, 1) := by decide +kernel
theorem dX7_size_13 : decode cX7_size 13 = .ok (.iadd, 1) := by decide +kernel
theorem dX7_size_14 : decode cX7_size 14 = .ok (.iconst 3, 1) := by decide +kernel
theorem dX7_size_15 : decode cX7_size 15 = .ok (.aload_n 0, 1) := by decide +kernel
theorem dX7_size_16 : decode cX7_size 16 = .ok (.getfield 35, 3) := by decide +kernel
theorem dX7_size_19 : decode cX7_size 19 = .ok (.imul, 1) := by decide +kernel
theorem dX7_size_20 : decode cX7_size 20 = .ok (.iadd, 1) := by decide +kernel
theorem dX7_size_21 : decode cX7_size 21 = .ok (.ireturn, 1) := by decide +kernel
theorem dX7_hasRoom_0 : decode cX7_hasRoom 0 = .ok (.aload_n 0, 1) := by decide +kernel
theorem dX7_hasRoom_1 : decode cX7_hasRoom 1 = .ok (.invokevirtual 52, 3) := by decide +kernel
theorem dX7_hasRoom_4 : decode cX7_hasRoom 4 = .ok (.iload_n 1, 1) := by decide +kernel
theorem dX7_hasRoom_5 : decode cX7_hasRoom 5 = .ok (.iadd, 1) := by decide +kernel
theorem dX7_hasRoom_6 : decode cX7_hasRoom 6 = .ok (.aload_n 0, 1) := by decide +kernel
theorem dX7_hasRoom_7 : decode cX7_hasRoom 7 = .ok (.getfield 42, 3) := by decide +kernel
theorem dX7_hasRoom_10 : decode cX7_hasRoom 10 = .ok (.if_icmp .gt 7, 3) := by decide +kernel
theorem dX7_hasRoom_13 : decode cX7_hasRoom 13 = .ok (.iconst 1, 1) := by decide +kernel
theorem dX7_hasRoom_14 : decode cX7_hasRoom 14 = .ok (.goto 4, 3) := by decide +kernel
theorem dX7_hasRoom_17 : decode cX7_hasRoom 17 = .ok (.iconst 0, 1) := by decide +kernel
theorem dX7_hasRoom_18 : decode cX7_hasRoom 18 = .ok (.ireturn, 1) := by decide +kernel
theorem dX7_noteSize_0 : decode cX7_noteSize 0 = .ok (.aload_n 0, 1) := by decide +kernel
theorem dX7_noteSize_1 : decode cX7_noteSize 1 = .ok (.aload_n 0, 1) := by decide +kernel
theorem dX7_noteSize_2 : decode cX7_noteSize 2 = .ok (.getfield 45, 3) := by decide +kernel
theorem dX7_noteSize_5 : decode cX7_noteSize 5 = .ok (.aload_n 0, 1) := by decide +kernel
theorem dX7_noteSize_6 : decode cX7_noteSize 6 = .ok (.invokevirtual 52, 3) := by decide +kernel
theorem dX7_noteSize_9 : decode cX7_noteSize 9 = .ok (.invokestatic 53, 3) := by decide +kernel
theorem dX7_noteSize_12 : decode cX7_noteSize 12 = .ok (.putfield 45, 3) := by decide +kernel
theorem dX7_noteSize_15 : decode cX7_noteSize 15 = .ok (.return_, 1) := by decide +kernel
theorem dX7_pushFrame_0 : decode cX7_pushFrame 0 = .ok (.aload_n 0, 1) := by decide +kernel
theorem dX7_pushFrame_1 : decode cX7_pushFrame 1 = .ok (.getfield 31, 3) := by decide +kernel
theorem dX7_pushFrame_4 : decode cX7_pushFrame 4 = .ok (.aload_n 0, 1) := by decide +kernel
theorem dX7_pushFrame_5 : decode cX7_pushFrame 5 = .ok (.getfield 12, 3) := by decide +kernel
theorem dX7_pushFrame_8 : decode cX7_pushFrame 8 = .ok (.invokevirtual 59, 3) := by decide +kernel
theorem dX7_pushFrame_11 : decode cX7_pushFrame 11 = .ok (.invokestatic 60, 3) := by decide +kernel
theorem dX7_pushFrame_14 : decode cX7_pushFrame 14 = .ok (.ifCond .eq 21, 3) := by decide +kernel
theorem dX7_pushFrame_17 : decode cX7_pushFrame 17 = .ok (.aload_n 0, 1) := by decide +kernel
theorem dX7_pushFrame_18 : decode cX7_pushFrame 18 = .ok (.getfield 12, 3) := by decide +kernel
theorem dX7_pushFrame_21 : decode cX7_pushFrame 21 = .ok (.aload_n 0, 1) := by decide +kernel
theorem dX7_pushFrame_22 : decode cX7_pushFrame 22 = .ok (.getfield 31, 3) := by decide +kernel
theorem dX7_pushFrame_25 : decode cX7_pushFrame 25 = .ok (.invokevirtual 64, 3) := by decide +kernel
theorem dX7_pushFrame_28 : decode cX7_pushFrame 28 = .ok (.checkcast 68, 3) := by decide +kernel
theorem dX7_pushFrame_31 : decode cX7_pushFrame 31 = .ok (.astore_n 2, 1) := by decide +kernel
theorem dX7_pushFrame_32 : decode cX7_pushFrame 32 = .ok (.goto 25, 3) := by decide +kernel
theorem dX7_pushFrame_35 : decode cX7_pushFrame 35 = .ok (.new 68, 3) := by decide +kernel
theorem dX7_pushFrame_38 : decode cX7_pushFrame 38 = .ok (.dup, 1) := by decide +kernel
theorem dX7_pushFrame_39 : decode cX7_pushFrame 39 = .ok (.aload_n 0, 1) := by decide +kernel
theorem dX7_pushFrame_40 : decode cX7_pushFrame 40 = .ok (.getfield 31, 3) := by decide +kernel
theorem dX7_pushFrame_43 : decode cX7_pushFrame 43 = .ok (.aload_n 1, 1) := by decide +kernel
theorem dX7_pushFrame_44 : decode cX7_pushFrame 44 = .ok (.invokespecial 70, 3) := by decide +kernel
theorem dX7_pushFrame_47 : decode cX7_pushFrame 47 = .ok (.astore_n 2, 1) := by decide +kernel
theorem dX7_pushFrame_48 : decode cX7_pushFrame 48 = .ok (.aload_n 0, 1) := by decide +kernel
theorem dX7_pushFrame_49 : decode cX7_pushFrame 49 = .ok (.getfield 12, 3) := by decide +kernel
theorem dX7_pushFrame_52 : decode cX7_pushFrame 52 = .ok (.aload_n 2, 1) := by decide +kernel
theorem dX7_pushFrame_53 : decode cX7_pushFrame 53 = .ok (.invokevirtual 73, 3) := by decide +kernel
theorem dX7_pushFrame_56 : decode cX7_pushFrame 56 = .ok (.pop, 1) := by decide +kernel
theorem dX7_pushFrame_57 : decode cX7_pushFrame 57 = .ok (.aload_n 0, 1) := by decide +kernel
theorem dX7_pushFrame_58 : decode cX7_pushFrame 58 = .ok (.dup, 1) := by decide +kernel
theorem dX7_pushFrame_59 : decode cX7_pushFrame 59 = .ok (.getfield 31, 3) := by decide +kernel
theorem dX7_pushFrame_62 : decode cX7_pushFrame 62 = .ok (.iconst 1, 1) := by decide +kernel
theorem dX7_pushFrame_63 : decode cX7_pushFrame 63 = .ok (.iadd, 1) := by decide +kernel
theorem dX7_pushFrame_64 : decode cX7_pushFrame 64 = .ok (.putfield 31, 3) := by decide +kernel
theorem dX7_pushFrame_67 : decode cX7_pushFrame 67 = .ok (.aload_n 2, 1) := by decide +kernel
theorem dX7_pushFrame_68 : decode cX7_pushFrame 68 = .ok (.aload_n 1, 1) := by decide +kernel
theorem dX7_pushFrame_69 : decode cX7_pushFrame 69 = .ok (.putfield 77, 3) := by decide +kernel
theorem dX7_pushFrame_72 : decode cX7_pushFrame 72 = .ok (.aload_n 2, 1) := by decide +kernel
theorem dX7_pushFrame_73 : decode cX7_pushFrame 73 = .ok (.aload_n 0, 1) := by decide +kernel
theorem dX7_pushFrame_74 : decode cX7_pushFrame 74 = .ok (.getfield 24, 3) := by decide +kernel
theorem dX7_pushFrame_77 : decode cX7_pushFrame 77 = .ok (.invokevirtual 48, 3) := by decide +kernel
theorem dX7_pushFrame_80 : decode cX7_pushFrame 80 = .ok (.putfield 81, 3) := by decide +kernel
theorem dX7_pushFrame_83 : decode cX7_pushFrame 83 = .ok (.aload_n 2, 1) := by decide +kernel
theorem dX7_pushFrame_84 : decode cX7_pushFrame 84 = .ok (.aconst_null, 1) := by decide +kernel
theorem dX7_pushFrame_85 : decode cX7_pushFrame 85 = .ok (.putfield 84, 3) := by decide +kernel
theorem dX7_pushFrame_88 : decode cX7_pushFrame 88 = .ok (.aload_n 2, 1) := by decide +kernel
theorem dX7_pushFrame_89 : decode cX7_pushFrame 89 = .ok (.aconst_null, 1) := by decide +kernel
theorem dX7_pushFrame_90 : decode cX7_pushFrame 90 = .ok (.putfield 88, 3) := by decide +kernel
theorem dX7_pushFrame_93 : decode cX7_pushFrame 93 = .ok (.aload_n 2, 1) := by decide +kernel
theorem dX7_pushFrame_94 : decode cX7_pushFrame 94 = .ok (.aload_n 0, 1) := by decide +kernel
theorem dX7_pushFrame_95 : decode cX7_pushFrame 95 = .ok (.getfield 35, 3) := by decide +kernel
theorem dX7_pushFrame_98 : decode cX7_pushFrame 98 = .ok (.putfield 92, 3) := by decide +kernel
theorem dX7_pushFrame_101 : decode cX7_pushFrame 101 = .ok (.iconst 0, 1) := by decide +kernel
theorem dX7_pushFrame_102 : decode cX7_pushFrame 102 = .ok (.istore_n 3, 1) := by decide +kernel
theorem dX7_pushFrame_103 : decode cX7_pushFrame 103 = .ok (.iload_n 3, 1) := by decide +kernel
theorem dX7_pushFrame_104 : decode cX7_pushFrame 104 = .ok (.aload_n 1, 1) := by decide +kernel
theorem dX7_pushFrame_105 : decode cX7_pushFrame 105 = .ok (.getfield 95, 3) := by decide +kernel
theorem dX7_pushFrame_108 : decode cX7_pushFrame 108 = .ok (.if_icmp .ge 17, 3) := by decide +kernel
theorem dX7_pushFrame_111 : decode cX7_pushFrame 111 = .ok (.aload_n 0, 1) := by decide +kernel
theorem dX7_pushFrame_112 : decode cX7_pushFrame 112 = .ok (.getfield 24, 3) := by decide +kernel
theorem dX7_pushFrame_115 : decode cX7_pushFrame 115 = .ok (.lconst 0, 1) := by decide +kernel
theorem dX7_pushFrame_116 : decode cX7_pushFrame 116 = .ok (.invokevirtual 100, 3) := by decide +kernel
theorem dX7_pushFrame_119 : decode cX7_pushFrame 119 = .ok (.iinc 3 1, 3) := by decide +kernel
theorem dX7_pushFrame_122 : decode cX7_pushFrame 122 = .ok (.goto (-19), 3) := by decide +kernel
theorem dX7_pushFrame_125 : decode cX7_pushFrame 125 = .ok (.aload_n 0, 1) := by decide +kernel
theorem dX7_pushFrame_126 : decode cX7_pushFrame 126 = .ok (.invokevirtual 104, 3) := by decide +kernel
theorem dX7_pushFrame_129 : decode cX7_pushFrame 129 = .ok (.aload_n 2, 1) := by decide +kernel
theorem dX7_pushFrame_130 : decode cX7_pushFrame 130 = .ok (.areturn, 1) := by decide +kernel
theorem dX7_pushRedo_0 : decode cX7_pushRedo 0 = .ok (.aload_n 0, 1) := by decide +kernel
theorem dX7_pushRedo_1 : decode cX7_pushRedo 1 = .ok (.getfield 35, 3) := by decide +kernel
theorem dX7_pushRedo_4 : decode cX7_pushRedo 4 = .ok (.aload_n 0, 1) := by decide +kernel
theorem dX7_pushRedo_5 : decode cX7_pushRedo 5 = .ok (.getfield 18, 3) := by decide +kernel
theorem dX7_pushRedo_8 : decode cX7_pushRedo 8 = .ok (.invokevirtual 59, 3) := by decide +kernel
theorem dX7_pushRedo_11 : decode cX7_pushRedo 11 = .ok (.invokestatic 60, 3) := by decide +kernel
theorem dX7_pushRedo_14 : decode cX7_pushRedo 14 = .ok (.ifCond .eq 22, 3) := by decide +kernel
theorem dX7_pushRedo_17 : decode cX7_pushRedo 17 = .ok (.aload_n 0, 1) := by decide +kernel
theorem dX7_pushRedo_18 : decode cX7_pushRedo 18 = .ok (.getfield 18, 3) := by decide +kernel
theorem dX7_pushRedo_21 : decode cX7_pushRedo 21 = .ok (.aload_n 0, 1) := by decide +kernel
theorem dX7_pushRedo_22 : decode cX7_pushRedo 22 = .ok (.getfield 35, 3) := by decide +kernel
theorem dX7_pushRedo_25 : decode cX7_pushRedo 25 = .ok (.invokevirtual 64, 3) := by decide +kernel
theorem dX7_pushRedo_28 : decode cX7_pushRedo 28 = .ok (.checkcast 107, 3) := by decide +kernel
theorem dX7_pushRedo_31 : decode cX7_pushRedo 31 = .ok (.astore 4, 2) := by decide +kernel
theorem dX7_pushRedo_33 : decode cX7_pushRedo 33 = .ok (.goto 23, 3) := by decide +kernel
theorem dX7_pushRedo_36 : decode cX7_pushRedo 36 = .ok (.new 107, 3) := by decide +kernel
theorem dX7_pushRedo_39 : decode cX7_pushRedo 39 = .ok (.dup, 1) := by decide +kernel
theorem dX7_pushRedo_40 : decode cX7_pushRedo 40 = .ok (.aload_n 1, 1) := by decide +kernel
theorem dX7_pushRedo_41 : decode cX7_pushRedo 41 = .ok (.invokespecial 109, 3) := by decide +kernel
theorem dX7_pushRedo_44 : decode cX7_pushRedo 44 = .ok (.astore 4, 2) := by decide +kernel
theorem dX7_pushRedo_46 : decode cX7_pushRedo 46 = .ok (.aload_n 0, 1) := by decide +kernel
theorem dX7_pushRedo_47 : decode cX7_pushRedo 47 = .ok (.getfield 18, 3) := by decide +kernel
theorem dX7_pushRedo_50 : decode cX7_pushRedo 50 = .ok (.aload 4, 2) := by decide +kernel
theorem dX7_pushRedo_52 : decode cX7_pushRedo 52 = .ok (.invokevirtual 73, 3) := by decide +kernel
theorem dX7_pushRedo_55 : decode cX7_pushRedo 55 = .ok (.pop, 1) := by decide +kernel
theorem dX7_pushRedo_56 : decode cX7_pushRedo 56 = .ok (.aload_n 0, 1) := by decide +kernel
theorem dX7_pushRedo_57 : decode cX7_pushRedo 57 = .ok (.dup, 1) := by decide +kernel
theorem dX7_pushRedo_58 : decode cX7_pushRedo 58 = .ok (.getfield 35, 3) := by decide +kernel
theorem dX7_pushRedo_61 : decode cX7_pushRedo 61 = .ok (.iconst 1, 1) := by decide +kernel
theorem dX7_pushRedo_62 : decode cX7_pushRedo 62 = .ok (.iadd, 1) := by decide +kernel
theorem dX7_pushRedo_63 : decode cX7_pushRedo 63 = .ok (.putfield 35, 3) := by decide +kernel
theorem dX7_pushRedo_66 : decode cX7_pushRedo 66 = .ok (.aload 4, 2) := by decide +kernel
theorem dX7_pushRedo_68 : decode cX7_pushRedo 68 = .ok (.aload_n 1, 1) := by decide +kernel
theorem dX7_pushRedo_69 : decode cX7_pushRedo 69 = .ok (.putfield 112, 3) := by decide +kernel
theorem dX7_pushRedo_72 : decode cX7_pushRedo 72 = .ok (.aload 4, 2) := by decide +kernel
theorem dX7_pushRedo_74 : decode cX7_pushRedo 74 = .ok (.iload_n 2, 1) := by decide +kernel
theorem dX7_pushRedo_75 : decode cX7_pushRedo 75 = .ok (.putfield 115, 3) := by decide +kernel
theorem dX7_pushRedo_78 : decode cX7_pushRedo 78 = .ok (.aload 4, 2) := by decide +kernel
theorem dX7_pushRedo_80 : decode cX7_pushRedo 80 = .ok (.iconst 0, 1) := by decide +kernel
theorem dX7_pushRedo_81 : decode cX7_pushRedo 81 = .ok (.putfield 118, 3) := by decide +kernel
theorem dX7_pushRedo_84 : decode cX7_pushRedo 84 = .ok (.aload 4, 2) := by decide +kernel
theorem dX7_pushRedo_86 : decode cX7_pushRedo 86 = .ok (.aload_n 0, 1) := by decide +kernel
theorem dX7_pushRedo_87 : decode cX7_pushRedo 87 = .ok (.getfield 31, 3) := by decide +kernel
theorem dX7_pushRedo_90 : decode cX7_pushRedo 90 = .ok (.putfield 122, 3) := by decide +kernel
theorem dX7_pushRedo_93 : decode cX7_pushRedo 93 = .ok (.aload 4, 2) := by decide +kernel
theorem dX7_pushRedo_95 : decode cX7_pushRedo 95 = .ok (.aload_n 0, 1) := by decide +kernel
theorem dX7_pushRedo_96 : decode cX7_pushRedo 96 = .ok (.getfield 24, 3) := by decide +kernel
theorem dX7_pushRedo_99 : decode cX7_pushRedo 99 = .ok (.invokevirtual 48, 3) := by decide +kernel
theorem dX7_pushRedo_102 : decode cX7_pushRedo 102 = .ok (.putfield 125, 3) := by decide +kernel
theorem dX7_pushRedo_105 : decode cX7_pushRedo 105 = .ok (.aload 4, 2) := by decide +kernel
theorem dX7_pushRedo_107 : decode cX7_pushRedo 107 = .ok (.aload_n 0, 1) := by decide +kernel
theorem dX7_pushRedo_108 : decode cX7_pushRedo 108 = .ok (.getfield 28, 3) := by decide +kernel
theorem dX7_pushRedo_111 : decode cX7_pushRedo 111 = .ok (.invokevirtual 48, 3) := by decide +kernel
theorem dX7_pushRedo_114 : decode cX7_pushRedo 114 = .ok (.putfield 128, 3) := by decide +kernel
theorem dX7_pushRedo_117 : decode cX7_pushRedo 117 = .ok (.aload 4, 2) := by decide +kernel
theorem dX7_pushRedo_119 : decode cX7_pushRedo 119 = .ok (.iload_n 3, 1) := by decide +kernel
theorem dX7_pushRedo_120 : decode cX7_pushRedo 120 = .ok (.putfield 131, 3) := by decide +kernel
theorem dX7_pushRedo_123 : decode cX7_pushRedo 123 = .ok (.aload_n 0, 1) := by decide +kernel
theorem dX7_pushRedo_124 : decode cX7_pushRedo 124 = .ok (.invokevirtual 104, 3) := by decide +kernel
theorem dX7_pushRedo_127 : decode cX7_pushRedo 127 = .ok (.return_, 1) := by decide +kernel
theorem dX7_redoAt_0 : decode cX7_redoAt 0 = .ok (.iload_n 1, 1) := by decide +kernel
theorem dX7_redoAt_1 : decode cX7_redoAt 1 = .ok (.aload_n 0, 1) := by decide +kernel
theorem dX7_redoAt_2 : decode cX7_redoAt 2 = .ok (.getfield 35, 3) := by decide +kernel
theorem dX7_redoAt_5 : decode cX7_redoAt 5 = .ok (.invokestatic 60, 3) := by decide +kernel
theorem dX7_redoAt_8 : decode cX7_redoAt 8 = .ok (.ifCond .eq 28, 3) := by decide +kernel
theorem dX7_redoAt_11 : decode cX7_redoAt 11 = .ok (.iload_n 1, 1) := by decide +kernel
theorem dX7_redoAt_12 : decode cX7_redoAt 12 = .ok (.aload_n 0, 1) := by decide +kernel
theorem dX7_redoAt_13 : decode cX7_redoAt 13 = .ok (.getfield 18, 3) := by decide +kernel
theorem dX7_redoAt_16 : decode cX7_redoAt 16 = .ok (.invokevirtual 59, 3) := by decide +kernel
theorem dX7_redoAt_19 : decode cX7_redoAt 19 = .ok (.if_icmp .ge 17, 3) := by decide +kernel
theorem dX7_redoAt_22 : decode cX7_redoAt 22 = .ok (.aload_n 0, 1) := by decide +kernel
theorem dX7_redoAt_23 : decode cX7_redoAt 23 = .ok (.getfield 18, 3) := by decide +kernel
theorem dX7_redoAt_26 : decode cX7_redoAt 26 = .ok (.iload_n 1, 1) := by decide +kernel
theorem dX7_redoAt_27 : decode cX7_redoAt 27 = .ok (.invokevirtual 64, 3) := by decide +kernel
theorem dX7_redoAt_30 : decode cX7_redoAt 30 = .ok (.checkcast 107, 3) := by decide +kernel
theorem dX7_redoAt_33 : decode cX7_redoAt 33 = .ok (.goto 4, 3) := by decide +kernel
theorem dX7_redoAt_36 : decode cX7_redoAt 36 = .ok (.aconst_null, 1) := by decide +kernel
theorem dX7_redoAt_37 : decode cX7_redoAt 37 = .ok (.areturn, 1) := by decide +kernel
theorem dX7_read_0 : decode cX7_read 0 = .ok (.aload_n 0, 1) := by decide +kernel
theorem dX7_read_1 : decode cX7_read 1 = .ok (.getfield 24, 3) := by decide +kernel
theorem dX7_read_4 : decode cX7_read 4 = .ok (.aload_n 1, 1) := by decide +kernel
theorem dX7_read_5 : decode cX7_read 5 = .ok (.getfield 81, 3) := by decide +kernel
theorem dX7_read_8 : decode cX7_read 8 = .ok (.iload_n 2, 1) := by decide +kernel
theorem dX7_read_9 : decode cX7_read 9 = .ok (.iadd, 1) := by decide +kernel
theorem dX7_read_10 : decode cX7_read 10 = .ok (.invokevirtual 134, 3) := by decide +kernel
theorem dX7_read_13 : decode cX7_read 13 = .ok (.lreturn, 1) := by decide +kernel
theorem dX7_write_0 : decode cX7_write 0 = .ok (.aload_n 1, 1) := by decide +kernel
theorem dX7_write_1 : decode cX7_write 1 = .ok (.getfield 81, 3) := by decide +kernel
theorem dX7_write_4 : decode cX7_write 4 = .ok (.iload_n 2, 1) := by decide +kernel
theorem dX7_write_5 : decode cX7_write 5 = .ok (.iadd, 1) := by decide +kernel
theorem dX7_write_6 : decode cX7_write 6 = .ok (.istore 5, 2) := by decide +kernel
theorem dX7_write_8 : decode cX7_write 8 = .ok (.aload_n 0, 1) := by decide +kernel
theorem dX7_write_9 : decode cX7_write 9 = .ok (.aload_n 0, 1) := by decide +kernel
theorem dX7_write_10 : decode cX7_write 10 = .ok (.getfield 35, 3) := by decide +kernel
theorem dX7_write_13 : decode cX7_write 13 = .ok (.iconst 1, 1) := by decide +kernel
theorem dX7_write_14 : decode cX7_write 14 = .ok (.isub, 1) := by decide +kernel
theorem dX7_write_15 : decode cX7_write 15 = .ok (.invokevirtual 138, 3) := by decide +kernel
theorem dX7_write_18 : decode cX7_write 18 = .ok (.astore 6, 2) := by decide +kernel
theorem dX7_write_20 : decode cX7_write 20 = .ok (.aload 6, 2) := by decide +kernel
theorem dX7_write_22 : decode cX7_write 22 = .ok (.ifnull 36, 3) := by decide +kernel
theorem dX7_write_25 : decode cX7_write 25 = .ok (.iload 5, 2) := by decide +kernel
theorem dX7_write_27 : decode cX7_write 27 = .ok (.aload 6, 2) := by decide +kernel
theorem dX7_write_29 : decode cX7_write 29 = .ok (.getfield 125, 3) := by decide +kernel
theorem dX7_write_32 : decode cX7_write 32 = .ok (.if_icmp .ge 26, 3) := by decide +kernel
theorem dX7_write_35 : decode cX7_write 35 = .ok (.aload_n 0, 1) := by decide +kernel
theorem dX7_write_36 : decode cX7_write 36 = .ok (.getfield 28, 3) := by decide +kernel
theorem dX7_write_39 : decode cX7_write 39 = .ok (.aload_n 0, 1) := by decide +kernel
theorem dX7_write_40 : decode cX7_write 40 = .ok (.getfield 24, 3) := by decide +kernel
theorem dX7_write_43 : decode cX7_write 43 = .ok (.iload 5, 2) := by decide +kernel
theorem dX7_write_45 : decode cX7_write 45 = .ok (.invokevirtual 134, 3) := by decide +kernel
theorem dX7_write_48 : decode cX7_write 48 = .ok (.bipush 16, 2) := by decide +kernel
theorem dX7_write_50 : decode cX7_write 50 = .ok (.lshl, 1) := by decide +kernel
theorem dX7_write_51 : decode cX7_write 51 = .ok (.iload 5, 2) := by decide +kernel
theorem dX7_write_53 : decode cX7_write 53 = .ok (.i2l, 1) := by decide +kernel
theorem dX7_write_54 : decode cX7_write 54 = .ok (.lor, 1) := by decide +kernel
theorem dX7_write_55 : decode cX7_write 55 = .ok (.invokevirtual 100, 3) := by decide +kernel
theorem dX7_write_58 : decode cX7_write 58 = .ok (.aload_n 0, 1) := by decide +kernel
theorem dX7_write_59 : decode cX7_write 59 = .ok (.getfield 24, 3) := by decide +kernel
theorem dX7_write_62 : decode cX7_write 62 = .ok (.iload 5, 2) := by decide +kernel
theorem dX7_write_64 : decode cX7_write 64 = .ok (.lload_n 3, 1) := by decide +kernel
theorem dX7_write_65 : decode cX7_write 65 = .ok (.invokevirtual 142, 3) := by decide +kernel
theorem dX7_write_68 : decode cX7_write 68 = .ok (.return_, 1) := by decide +kernel
theorem dX7_cutTo_0 : decode cX7_cutTo 0 = .ok (.aload_n 0, 1) := by decide +kernel
theorem dX7_cutTo_1 : decode cX7_cutTo 1 = .ok (.aload_n 0, 1) := by decide +kernel
theorem dX7_cutTo_2 : decode cX7_cutTo 2 = .ok (.getfield 35, 3) := by decide +kernel
theorem dX7_cutTo_5 : decode cX7_cutTo 5 = .ok (.iload_n 1, 1) := by decide +kernel
theorem dX7_cutTo_6 : decode cX7_cutTo 6 = .ok (.iconst 0, 1) := by decide +kernel
theorem dX7_cutTo_7 : decode cX7_cutTo 7 = .ok (.invokestatic 53, 3) := by decide +kernel
theorem dX7_cutTo_10 : decode cX7_cutTo 10 = .ok (.invokestatic 146, 3) := by decide +kernel
theorem dX7_cutTo_13 : decode cX7_cutTo 13 = .ok (.putfield 35, 3) := by decide +kernel
theorem dX7_cutTo_16 : decode cX7_cutTo 16 = .ok (.aload_n 0, 1) := by decide +kernel
theorem dX7_cutTo_17 : decode cX7_cutTo 17 = .ok (.aload_n 0, 1) := by decide +kernel
theorem dX7_cutTo_18 : decode cX7_cutTo 18 = .ok (.getfield 35, 3) := by decide +kernel
theorem dX7_cutTo_21 : decode cX7_cutTo 21 = .ok (.iconst 1, 1) := by decide +kernel
theorem dX7_cutTo_22 : decode cX7_cutTo 22 = .ok (.isub, 1) := by decide +kernel
theorem dX7_cutTo_23 : decode cX7_cutTo 23 = .ok (.invokevirtual 138, 3) := by decide +kernel
theorem dX7_cutTo_26 : decode cX7_cutTo 26 = .ok (.astore_n 3, 1) := by decide +kernel
theorem dX7_cutTo_27 : decode cX7_cutTo 27 = .ok (.aload_n 3, 1) := by decide +kernel
theorem dX7_cutTo_28 : decode cX7_cutTo 28 = .ok (.ifnonnull 24, 3) := by decide +kernel
theorem dX7_cutTo_31 : decode cX7_cutTo 31 = .ok (.aload_n 0, 1) := by decide +kernel
theorem dX7_cutTo_32 : decode cX7_cutTo 32 = .ok (.getfield 28, 3) := by decide +kernel
theorem dX7_cutTo_35 : decode cX7_cutTo 35 = .ok (.iconst 0, 1) := by decide +kernel
theorem dX7_cutTo_36 : decode cX7_cutTo 36 = .ok (.invokevirtual 38, 3) := by decide +kernel
theorem dX7_cutTo_39 : decode cX7_cutTo 39 = .ok (.aload_n 0, 1) := by decide +kernel
theorem dX7_cutTo_40 : decode cX7_cutTo 40 = .ok (.aload_n 2, 1) := by decide +kernel
theorem dX7_cutTo_41 : decode cX7_cutTo 41 = .ok (.getfield 149, 3) := by decide +kernel
theorem dX7_cutTo_44 : decode cX7_cutTo 44 = .ok (.iconst 1, 1) := by decide +kernel
theorem dX7_cutTo_45 : decode cX7_cutTo 45 = .ok (.iadd, 1) := by decide +kernel
theorem dX7_cutTo_46 : decode cX7_cutTo 46 = .ok (.invokevirtual 152, 3) := by decide +kernel
theorem dX7_cutTo_49 : decode cX7_cutTo 49 = .ok (.goto 20, 3) := by decide +kernel
theorem dX7_cutTo_52 : decode cX7_cutTo 52 = .ok (.aload_n 0, 1) := by decide +kernel
theorem dX7_cutTo_53 : decode cX7_cutTo 53 = .ok (.aload_n 2, 1) := by decide +kernel
theorem dX7_cutTo_54 : decode cX7_cutTo 54 = .ok (.getfield 149, 3) := by decide +kernel
theorem dX7_cutTo_57 : decode cX7_cutTo 57 = .ok (.iconst 1, 1) := by decide +kernel
theorem dX7_cutTo_58 : decode cX7_cutTo 58 = .ok (.iadd, 1) := by decide +kernel
theorem dX7_cutTo_59 : decode cX7_cutTo 59 = .ok (.aload_n 3, 1) := by decide +kernel
theorem dX7_cutTo_60 : decode cX7_cutTo 60 = .ok (.getfield 122, 3) := by decide +kernel
theorem dX7_cutTo_63 : decode cX7_cutTo 63 = .ok (.invokestatic 53, 3) := by decide +kernel
theorem dX7_cutTo_66 : decode cX7_cutTo 66 = .ok (.invokevirtual 152, 3) := by decide +kernel
theorem dX7_cutTo_69 : decode cX7_cutTo 69 = .ok (.return_, 1) := by decide +kernel
theorem dX7_keepFrames_0 : decode cX7_keepFrames 0 = .ok (.iload_n 1, 1) := by decide +kernel
theorem dX7_keepFrames_1 : decode cX7_keepFrames 1 = .ok (.aload_n 0, 1) := by decide +kernel
theorem dX7_keepFrames_2 : decode cX7_keepFrames 2 = .ok (.getfield 31, 3) := by decide +kernel
theorem dX7_keepFrames_5 : decode cX7_keepFrames 5 = .ok (.invokestatic 60, 3) := by decide +kernel
theorem dX7_keepFrames_8 : decode cX7_keepFrames 8 = .ok (.ifCond .eq 40, 3) := by decide +kernel
theorem dX7_keepFrames_11 : decode cX7_keepFrames 11 = .ok (.iload_n 1, 1) := by decide +kernel
theorem dX7_keepFrames_12 : decode cX7_keepFrames 12 = .ok (.aload_n 0, 1) := by decide +kernel
theorem dX7_keepFrames_13 : decode cX7_keepFrames 13 = .ok (.getfield 12, 3) := by decide +kernel
theorem dX7_keepFrames_16 : decode cX7_keepFrames 16 = .ok (.invokevirtual 59, 3) := by decide +kernel
theorem dX7_keepFrames_19 : decode cX7_keepFrames 19 = .ok (.if_icmp .ge 29, 3) := by decide +kernel
theorem dX7_keepFrames_22 : decode cX7_keepFrames 22 = .ok (.aload_n 0, 1) := by decide +kernel
theorem dX7_keepFrames_23 : decode cX7_keepFrames 23 = .ok (.getfield 24, 3) := by decide +kernel
theorem dX7_keepFrames_26 : decode cX7_keepFrames 26 = .ok (.aload_n 0, 1) := by decide +kernel
theorem dX7_keepFrames_27 : decode cX7_keepFrames 27 = .ok (.getfield 12, 3) := by decide +kernel
theorem dX7_keepFrames_30 : decode cX7_keepFrames 30 = .ok (.iload_n 1, 1) := by decide +kernel
theorem dX7_keepFrames_31 : decode cX7_keepFrames 31 = .ok (.invokevirtual 64, 3) := by decide +kernel
theorem dX7_keepFrames_34 : decode cX7_keepFrames 34 = .ok (.checkcast 68, 3) := by decide +kernel
theorem dX7_keepFrames_37 : decode cX7_keepFrames 37 = .ok (.getfield 81, 3) := by decide +kernel
theorem dX7_keepFrames_40 : decode cX7_keepFrames 40 = .ok (.invokevirtual 38, 3) := by decide +kernel
theorem dX7_keepFrames_43 : decode cX7_keepFrames 43 = .ok (.aload_n 0, 1) := by decide +kernel
theorem dX7_keepFrames_44 : decode cX7_keepFrames 44 = .ok (.iload_n 1, 1) := by decide +kernel
theorem dX7_keepFrames_45 : decode cX7_keepFrames 45 = .ok (.putfield 31, 3) := by decide +kernel
theorem dX7_keepFrames_48 : decode cX7_keepFrames 48 = .ok (.return_, 1) := by decide +kernel
theorem dX7_dropRedo_0 : decode cX7_dropRedo 0 = .ok (.aload_n 0, 1) := by decide +kernel
theorem dX7_dropRedo_1 : decode cX7_dropRedo 1 = .ok (.iload_n 1, 1) := by decide +kernel
theorem dX7_dropRedo_2 : decode cX7_dropRedo 2 = .ok (.invokevirtual 138, 3) := by decide +kernel
theorem dX7_dropRedo_5 : decode cX7_dropRedo 5 = .ok (.astore_n 2, 1) := by decide +kernel
theorem dX7_dropRedo_6 : decode cX7_dropRedo 6 = .ok (.aload_n 2, 1) := by decide +kernel
theorem dX7_dropRedo_7 : decode cX7_dropRedo 7 = .ok (.ifnull 8, 3) := by decide +kernel
theorem dX7_dropRedo_10 : decode cX7_dropRedo 10 = .ok (.aload_n 2, 1) := by decide +kernel
theorem dX7_dropRedo_11 : decode cX7_dropRedo 11 = .ok (.iconst 1, 1) := by decide +kernel
theorem dX7_dropRedo_12 : decode cX7_dropRedo 12 = .ok (.putfield 118, 3) := by decide +kernel
theorem dX7_dropRedo_15 : decode cX7_dropRedo 15 = .ok (.return_, 1) := by decide +kernel
theorem dX7_leave_0 : decode cX7_leave 0 = .ok (.aload_n 0, 1) := by decide +kernel
theorem dX7_leave_1 : decode cX7_leave 1 = .ok (.aload_n 0, 1) := by decide +kernel
theorem dX7_leave_2 : decode cX7_leave 2 = .ok (.getfield 35, 3) := by decide +kernel
theorem dX7_leave_5 : decode cX7_leave 5 = .ok (.iconst 1, 1) := by decide +kernel
theorem dX7_leave_6 : decode cX7_leave 6 = .ok (.isub, 1) := by decide +kernel
theorem dX7_leave_7 : decode cX7_leave 7 = .ok (.invokevirtual 138, 3) := by decide +kernel
theorem dX7_leave_10 : decode cX7_leave 10 = .ok (.astore_n 2, 1) := by decide +kernel
theorem dX7_leave_11 : decode cX7_leave 11 = .ok (.aload_n 2, 1) := by decide +kernel
theorem dX7_leave_12 : decode cX7_leave 12 = .ok (.ifnull 18, 3) := by decide +kernel
theorem dX7_leave_15 : decode cX7_leave 15 = .ok (.aload_n 2, 1) := by decide +kernel
theorem dX7_leave_16 : decode cX7_leave 16 = .ok (.getfield 122, 3) := by decide +kernel
theorem dX7_leave_19 : decode cX7_leave 19 = .ok (.aload_n 1, 1) := by decide +kernel
theorem dX7_leave_20 : decode cX7_leave 20 = .ok (.getfield 149, 3) := by decide +kernel
theorem dX7_leave_23 : decode cX7_leave 23 = .ok (.if_icmp .le 7, 3) := by decide +kernel
theorem dX7_leave_26 : decode cX7_leave 26 = .ok (.iconst 1, 1) := by decide +kernel
theorem dX7_leave_27 : decode cX7_leave 27 = .ok (.goto 4, 3) := by decide +kernel
theorem dX7_leave_30 : decode cX7_leave 30 = .ok (.iconst 0, 1) := by decide +kernel
theorem dX7_leave_31 : decode cX7_leave 31 = .ok (.istore_n 3, 1) := by decide +kernel
theorem dX7_leave_32 : decode cX7_leave 32 = .ok (.aload_n 1, 1) := by decide +kernel
theorem dX7_leave_33 : decode cX7_leave 33 = .ok (.getfield 149, 3) := by decide +kernel
theorem dX7_leave_36 : decode cX7_leave 36 = .ok (.aload_n 0, 1) := by decide +kernel
theorem dX7_leave_37 : decode cX7_leave 37 = .ok (.getfield 31, 3) := by decide +kernel
theorem dX7_leave_40 : decode cX7_leave 40 = .ok (.iconst 1, 1) := by decide +kernel
theorem dX7_leave_41 : decode cX7_leave 41 = .ok (.isub, 1) := by decide +kernel
theorem dX7_leave_42 : decode cX7_leave 42 = .ok (.if_icmp .ne 15, 3) := by decide +kernel
theorem dX7_leave_45 : decode cX7_leave 45 = .ok (.iload_n 3, 1) := by decide +kernel
theorem dX7_leave_46 : decode cX7_leave 46 = .ok (.ifCond .ne 11, 3) := by decide +kernel
theorem dX7_leave_49 : decode cX7_leave 49 = .ok (.aload_n 0, 1) := by decide +kernel
theorem dX7_leave_50 : decode cX7_leave 50 = .ok (.aload_n 1, 1) := by decide +kernel
theorem dX7_leave_51 : decode cX7_leave 51 = .ok (.getfield 149, 3) := by decide +kernel
theorem dX7_leave_54 : decode cX7_leave 54 = .ok (.invokevirtual 152, 3) := by decide +kernel
end
section
theorem dX7_leave_57 : decode cX7_leave 57 = .ok (.return_, 1) := by decide +kernel
theorem dX7_popRedo_0 : decode cX7_popRedo 0 = .ok (.aload_n 0, 1) := by decide +kernel
theorem dX7_popRedo_1 : decode cX7_popRedo 1 = .ok (.aload_n 0, 1) := by decide +kernel
theorem dX7_popRedo_2 : decode cX7_popRedo 2 = .ok (.getfield 35, 3) := by decide +kernel
theorem dX7_popRedo_5 : decode cX7_popRedo 5 = .ok (.iconst 1, 1) := by decide +kernel
theorem dX7_popRedo_6 : decode cX7_popRedo 6 = .ok (.isub, 1) := by decide +kernel
theorem dX7_popRedo_7 : decode cX7_popRedo 7 = .ok (.invokevirtual 138, 3) := by decide +kernel
theorem dX7_popRedo_10 : decode cX7_popRedo 10 = .ok (.astore_n 1, 1) := by decide +kernel
theorem dX7_popRedo_11 : decode cX7_popRedo 11 = .ok (.aload_n 1, 1) := by decide +kernel
theorem dX7_popRedo_12 : decode cX7_popRedo 12 = .ok (.ifnull 21, 3) := by decide +kernel
theorem dX7_popRedo_15 : decode cX7_popRedo 15 = .ok (.aload_n 0, 1) := by decide +kernel
theorem dX7_popRedo_16 : decode cX7_popRedo 16 = .ok (.dup, 1) := by decide +kernel
theorem dX7_popRedo_17 : decode cX7_popRedo 17 = .ok (.getfield 35, 3) := by decide +kernel
theorem dX7_popRedo_20 : decode cX7_popRedo 20 = .ok (.iconst 1, 1) := by decide +kernel
theorem dX7_popRedo_21 : decode cX7_popRedo 21 = .ok (.isub, 1) := by decide +kernel
theorem dX7_popRedo_22 : decode cX7_popRedo 22 = .ok (.putfield 35, 3) := by decide +kernel
theorem dX7_popRedo_25 : decode cX7_popRedo 25 = .ok (.aload_n 0, 1) := by decide +kernel
theorem dX7_popRedo_26 : decode cX7_popRedo 26 = .ok (.aload_n 1, 1) := by decide +kernel
theorem dX7_popRedo_27 : decode cX7_popRedo 27 = .ok (.getfield 122, 3) := by decide +kernel
theorem dX7_popRedo_30 : decode cX7_popRedo 30 = .ok (.invokevirtual 152, 3) := by decide +kernel
theorem dX7_popRedo_33 : decode cX7_popRedo 33 = .ok (.aload_n 1, 1) := by decide +kernel
theorem dX7_popRedo_34 : decode cX7_popRedo 34 = .ok (.areturn, 1) := by decide +kernel
theorem dX7_goBackTo_0 : decode cX7_goBackTo 0 = .ok (.aload_n 0, 1) := by decide +kernel
theorem dX7_goBackTo_1 : decode cX7_goBackTo 1 = .ok (.getfield 28, 3) := by decide +kernel
theorem dX7_goBackTo_4 : decode cX7_goBackTo 4 = .ok (.invokevirtual 48, 3) := by decide +kernel
theorem dX7_goBackTo_7 : decode cX7_goBackTo 7 = .ok (.istore_n 2, 1) := by decide +kernel
theorem dX7_goBackTo_8 : decode cX7_goBackTo 8 = .ok (.iload_n 2, 1) := by decide +kernel
theorem dX7_goBackTo_9 : decode cX7_goBackTo 9 = .ok (.aload_n 1, 1) := by decide +kernel
theorem dX7_goBackTo_10 : decode cX7_goBackTo 10 = .ok (.getfield 128, 3) := by decide +kernel
theorem dX7_goBackTo_13 : decode cX7_goBackTo 13 = .ok (.if_icmp .le 34, 3) := by decide +kernel
theorem dX7_goBackTo_16 : decode cX7_goBackTo 16 = .ok (.aload_n 0, 1) := by decide +kernel
theorem dX7_goBackTo_17 : decode cX7_goBackTo 17 = .ok (.getfield 28, 3) := by decide +kernel
theorem dX7_goBackTo_20 : decode cX7_goBackTo 20 = .ok (.invokevirtual 155, 3) := by decide +kernel
theorem dX7_goBackTo_23 : decode cX7_goBackTo 23 = .ok (.lstore_n 3, 1) := by decide +kernel
theorem dX7_goBackTo_24 : decode cX7_goBackTo 24 = .ok (.aload_n 0, 1) := by decide +kernel
theorem dX7_goBackTo_25 : decode cX7_goBackTo 25 = .ok (.getfield 24, 3) := by decide +kernel
theorem dX7_goBackTo_28 : decode cX7_goBackTo 28 = .ok (.lload_n 3, 1) := by decide +kernel
theorem dX7_goBackTo_29 : decode cX7_goBackTo 29 = .ok (.ldc2_w 159, 3) := by decide +kernel
theorem dX7_goBackTo_32 : decode cX7_goBackTo 32 = .ok (.land, 1) := by decide +kernel
theorem dX7_goBackTo_33 : decode cX7_goBackTo 33 = .ok (.l2i, 1) := by decide +kernel
theorem dX7_goBackTo_34 : decode cX7_goBackTo 34 = .ok (.lload_n 3, 1) := by decide +kernel
theorem dX7_goBackTo_35 : decode cX7_goBackTo 35 = .ok (.bipush 16, 2) := by decide +kernel
theorem dX7_goBackTo_37 : decode cX7_goBackTo 37 = .ok (.lshr, 1) := by decide +kernel
theorem dX7_goBackTo_38 : decode cX7_goBackTo 38 = .ok (.invokevirtual 142, 3) := by decide +kernel
theorem dX7_goBackTo_41 : decode cX7_goBackTo 41 = .ok (.iinc 2 (-1), 3) := by decide +kernel
theorem dX7_goBackTo_44 : decode cX7_goBackTo 44 = .ok (.goto (-36), 3) := by decide +kernel
theorem dX7_goBackTo_47 : decode cX7_goBackTo 47 = .ok (.return_, 1) := by decide +kernel
theorem dX8_init_0 : decode cX8_init 0 = .ok (.aload_n 0, 1) := by decide +kernel
theorem dX8_init_1 : decode cX8_init 1 = .ok (.invokespecial 3, 3) := by decide +kernel
theorem dX8_init_4 : decode cX8_init 4 = .ok (.aload_n 0, 1) := by decide +kernel
theorem dX8_init_5 : decode cX8_init 5 = .ok (.new 9, 3) := by decide +kernel
theorem dX8_init_8 : decode cX8_init 8 = .ok (.dup, 1) := by decide +kernel
theorem dX8_init_9 : decode cX8_init 9 = .ok (.invokespecial 11, 3) := by decide +kernel
theorem dX8_init_12 : decode cX8_init 12 = .ok (.putfield 12, 3) := by decide +kernel
theorem dX8_init_15 : decode cX8_init 15 = .ok (.aload_n 0, 1) := by decide +kernel
theorem dX8_init_16 : decode cX8_init 16 = .ok (.new 18, 3) := by decide +kernel
theorem dX8_init_19 : decode cX8_init 19 = .ok (.dup, 1) := by decide +kernel
theorem dX8_init_20 : decode cX8_init 20 = .ok (.invokespecial 20, 3) := by decide +kernel
theorem dX8_init_23 : decode cX8_init 23 = .ok (.putfield 21, 3) := by decide +kernel
theorem dX8_init_26 : decode cX8_init 26 = .ok (.return_, 1) := by decide +kernel
theorem dX8_write_0 : decode cX8_write 0 = .ok (.aload_n 0, 1) := by decide +kernel
theorem dX8_write_1 : decode cX8_write 1 = .ok (.getfield 12, 3) := by decide +kernel
theorem dX8_write_4 : decode cX8_write 4 = .ok (.iconst 0, 1) := by decide +kernel
theorem dX8_write_5 : decode cX8_write 5 = .ok (.invokevirtual 25, 3) := by decide +kernel
theorem dX8_write_8 : decode cX8_write 8 = .ok (.aload_n 0, 1) := by decide +kernel
theorem dX8_write_9 : decode cX8_write 9 = .ok (.getfield 21, 3) := by decide +kernel
theorem dX8_write_12 : decode cX8_write 12 = .ok (.iconst 0, 1) := by decide +kernel
theorem dX8_write_13 : decode cX8_write 13 = .ok (.invokevirtual 29, 3) := by decide +kernel
theorem dX8_write_16 : decode cX8_write 16 = .ok (.aload_n 0, 1) := by decide +kernel
theorem dX8_write_17 : decode cX8_write 17 = .ok (.lload_n 1, 1) := by decide +kernel
theorem dX8_write_18 : decode cX8_write 18 = .ok (.invokevirtual 32, 3) := by decide +kernel
theorem dX8_write_21 : decode cX8_write 21 = .ok (.iconst 0, 1) := by decide +kernel
theorem dX8_write_22 : decode cX8_write 22 = .ok (.istore 4, 2) := by decide +kernel
theorem dX8_write_24 : decode cX8_write 24 = .ok (.iload 4, 2) := by decide +kernel
theorem dX8_write_26 : decode cX8_write 26 = .ok (.sipush 1000, 3) := by decide +kernel
theorem dX8_write_29 : decode cX8_write 29 = .ok (.if_icmp .ge 40, 3) := by decide +kernel
theorem dX8_write_32 : decode cX8_write 32 = .ok (.aload_n 0, 1) := by decide +kernel
theorem dX8_write_33 : decode cX8_write 33 = .ok (.getfield 21, 3) := by decide +kernel
theorem dX8_write_36 : decode cX8_write 36 = .ok (.invokevirtual 36, 3) := by decide +kernel
theorem dX8_write_39 : decode cX8_write 39 = .ok (.ifCond .le 30, 3) := by decide +kernel
theorem dX8_write_42 : decode cX8_write 42 = .ok (.aload_n 0, 1) := by decide +kernel
theorem dX8_write_43 : decode cX8_write 43 = .ok (.getfield 12, 3) := by decide +kernel
theorem dX8_write_46 : decode cX8_write 46 = .ok (.invokevirtual 40, 3) := by decide +kernel
theorem dX8_write_49 : decode cX8_write 49 = .ok (.sipush 1000, 3) := by decide +kernel
theorem dX8_write_52 : decode cX8_write 52 = .ok (.if_icmp .lt 6, 3) := by decide +kernel
theorem dX8_write_55 : decode cX8_write 55 = .ok (.goto 14, 3) := by decide +kernel
theorem dX8_write_58 : decode cX8_write 58 = .ok (.aload_n 0, 1) := by decide +kernel
theorem dX8_write_59 : decode cX8_write 59 = .ok (.aload_n 3, 1) := by decide +kernel
theorem dX8_write_60 : decode cX8_write 60 = .ok (.invokevirtual 43, 3) := by decide +kernel
theorem dX8_write_63 : decode cX8_write 63 = .ok (.iinc 4 1, 3) := by decide +kernel
theorem dX8_write_66 : decode cX8_write 66 = .ok (.goto (-42), 3) := by decide +kernel
theorem dX8_write_69 : decode cX8_write 69 = .ok (.aload_n 0, 1) := by decide +kernel
theorem dX8_write_70 : decode cX8_write 70 = .ok (.getfield 12, 3) := by decide +kernel
theorem dX8_write_73 : decode cX8_write 73 = .ok (.invokevirtual 40, 3) := by decide +kernel
theorem dX8_write_76 : decode cX8_write 76 = .ok (.sipush 1000, 3) := by decide +kernel
theorem dX8_write_79 : decode cX8_write 79 = .ok (.if_icmp .le 13, 3) := by decide +kernel
theorem dX8_write_82 : decode cX8_write 82 = .ok (.aload_n 0, 1) := by decide +kernel
theorem dX8_write_83 : decode cX8_write 83 = .ok (.getfield 12, 3) := by decide +kernel
theorem dX8_write_86 : decode cX8_write 86 = .ok (.sipush 1000, 3) := by decide +kernel
theorem dX8_write_89 : decode cX8_write 89 = .ok (.invokevirtual 25, 3) := by decide +kernel
theorem dX8_write_92 : decode cX8_write 92 = .ok (.aload_n 0, 1) := by decide +kernel
theorem dX8_write_93 : decode cX8_write 93 = .ok (.getfield 12, 3) := by decide +kernel
theorem dX8_write_96 : decode cX8_write 96 = .ok (.invokevirtual 40, 3) := by decide +kernel
theorem dX8_write_99 : decode cX8_write 99 = .ok (.ireturn, 1) := by decide +kernel
theorem dX8_writeHead_0 : decode cX8_writeHead 0 = .ok (.lload_n 1, 1) := by decide +kernel
theorem dX8_writeHead_1 : decode cX8_writeHead 1 = .ok (.invokestatic 47, 3) := by decide +kernel
theorem dX8_writeHead_4 : decode cX8_writeHead 4 = .ok (.ifCond .ne 14, 3) := by decide +kernel
theorem dX8_writeHead_7 : decode cX8_writeHead 7 = .ok (.aload_n 0, 1) := by decide +kernel
theorem dX8_writeHead_8 : decode cX8_writeHead 8 = .ok (.getfield 12, 3) := by decide +kernel
theorem dX8_writeHead_11 : decode cX8_writeHead 11 = .ok (.lload_n 1, 1) := by decide +kernel
theorem dX8_writeHead_12 : decode cX8_writeHead 12 = .ok (.l2i, 1) := by decide +kernel
theorem dX8_writeHead_13 : decode cX8_writeHead 13 = .ok (.invokevirtual 53, 3) := by decide +kernel
theorem dX8_writeHead_16 : decode cX8_writeHead 16 = .ok (.pop, 1) := by decide +kernel
theorem dX8_writeHead_17 : decode cX8_writeHead 17 = .ok (.return_, 1) := by decide +kernel
theorem dX8_writeHead_18 : decode cX8_writeHead 18 = .ok (.aload_n 0, 1) := by decide +kernel
theorem dX8_writeHead_19 : decode cX8_writeHead 19 = .ok (.getfield 12, 3) := by decide +kernel
theorem dX8_writeHead_22 : decode cX8_writeHead 22 = .ok (.bipush 99, 2) := by decide +kernel
theorem dX8_writeHead_24 : decode cX8_writeHead 24 = .ok (.invokevirtual 57, 3) := by decide +kernel
theorem dX8_writeHead_27 : decode cX8_writeHead 27 = .ok (.pop, 1) := by decide +kernel
theorem dX8_writeHead_28 : decode cX8_writeHead 28 = .ok (.aload_n 0, 1) := by decide +kernel
theorem dX8_writeHead_29 : decode cX8_writeHead 29 = .ok (.getfield 12, 3) := by decide +kernel
theorem dX8_writeHead_32 : decode cX8_writeHead 32 = .ok (.lload_n 1, 1) := by decide +kernel
theorem dX8_writeHead_33 : decode cX8_writeHead 33 = .ok (.invokestatic 60, 3) := by decide +kernel
theorem dX8_writeHead_36 : decode cX8_writeHead 36 = .ok (.invokevirtual 53, 3) := by decide +kernel
theorem dX8_writeHead_39 : decode cX8_writeHead 39 = .ok (.pop, 1) := by decide +kernel
theorem dX8_writeHead_40 : decode cX8_writeHead 40 = .ok (.lload_n 1, 1) := by decide +kernel
theorem dX8_writeHead_41 : decode cX8_writeHead 41 = .ok (.invokestatic 64, 3) := by decide +kernel
theorem dX8_writeHead_44 : decode cX8_writeHead 44 = .ok (.ifCond .le 29, 3) := by decide +kernel
theorem dX8_writeHead_47 : decode cX8_writeHead 47 = .ok (.aload_n 0, 1) := by decide +kernel
theorem dX8_writeHead_48 : decode cX8_writeHead 48 = .ok (.getfield 12, 3) := by decide +kernel
theorem dX8_writeHead_51 : decode cX8_writeHead 51 = .ok (.bipush 40, 2) := by decide +kernel
theorem dX8_writeHead_53 : decode cX8_writeHead 53 = .ok (.invokevirtual 57, 3) := by decide +kernel
theorem dX8_writeHead_56 : decode cX8_writeHead 56 = .ok (.pop, 1) := by decide +kernel
theorem dX8_writeHead_57 : decode cX8_writeHead 57 = .ok (.aload_n 0, 1) := by decide +kernel
theorem dX8_writeHead_58 : decode cX8_writeHead 58 = .ok (.getfield 21, 3) := by decide +kernel
theorem dX8_writeHead_61 : decode cX8_writeHead 61 = .ok (.lload_n 1, 1) := by decide +kernel
theorem dX8_writeHead_62 : decode cX8_writeHead 62 = .ok (.invokevirtual 67, 3) := by decide +kernel
theorem dX8_writeHead_65 : decode cX8_writeHead 65 = .ok (.aload_n 0, 1) := by decide +kernel
theorem dX8_writeHead_66 : decode cX8_writeHead 66 = .ok (.getfield 21, 3) := by decide +kernel
theorem dX8_writeHead_69 : decode cX8_writeHead 69 = .ok (.lconst 0, 1) := by decide +kernel
theorem dX8_writeHead_70 : decode cX8_writeHead 70 = .ok (.invokevirtual 67, 3) := by decide +kernel
theorem dX8_writeHead_73 : decode cX8_writeHead 73 = .ok (.return_, 1) := by decide +kernel
theorem dX8_writeMore_0 : decode cX8_writeMore 0 = .ok (.aload_n 0, 1) := by decide +kernel
theorem dX8_writeMore_1 : decode cX8_writeMore 1 = .ok (.getfield 21, 3) := by decide +kernel
theorem dX8_writeMore_4 : decode cX8_writeMore 4 = .ok (.invokevirtual 70, 3) := by decide +kernel
theorem dX8_writeMore_7 : decode cX8_writeMore 7 = .ok (.l2i, 1) := by decide +kernel
theorem dX8_writeMore_8 : decode cX8_writeMore 8 = .ok (.istore_n 2, 1) := by decide +kernel
theorem dX8_writeMore_9 : decode cX8_writeMore 9 = .ok (.aload_n 0, 1) := by decide +kernel
theorem dX8_writeMore_10 : decode cX8_writeMore 10 = .ok (.getfield 21, 3) := by decide +kernel
theorem dX8_writeMore_13 : decode cX8_writeMore 13 = .ok (.invokevirtual 70, 3) := by decide +kernel
theorem dX8_writeMore_16 : decode cX8_writeMore 16 = .ok (.lstore_n 3, 1) := by decide +kernel
theorem dX8_writeMore_17 : decode cX8_writeMore 17 = .ok (.iload_n 2, 1) := by decide +kernel
theorem dX8_writeMore_18 : decode cX8_writeMore 18 = .ok (.lload_n 3, 1) := by decide +kernel
theorem dX8_writeMore_19 : decode cX8_writeMore 19 = .ok (.invokestatic 64, 3) := by decide +kernel
theorem dX8_writeMore_22 : decode cX8_writeMore 22 = .ok (.if_icmp .lt 14, 3) := by decide +kernel
theorem dX8_writeMore_25 : decode cX8_writeMore 25 = .ok (.aload_n 0, 1) := by decide +kernel
theorem dX8_writeMore_26 : decode cX8_writeMore 26 = .ok (.getfield 12, 3) := by decide +kernel
theorem dX8_writeMore_29 : decode cX8_writeMore 29 = .ok (.bipush 41, 2) := by decide +kernel
theorem dX8_writeMore_31 : decode cX8_writeMore 31 = .ok (.invokevirtual 57, 3) := by decide +kernel
theorem dX8_writeMore_34 : decode cX8_writeMore 34 = .ok (.pop, 1) := by decide +kernel
theorem dX8_writeMore_35 : decode cX8_writeMore 35 = .ok (.return_, 1) := by decide +kernel
theorem dX8_writeMore_36 : decode cX8_writeMore 36 = .ok (.iload_n 2, 1) := by decide +kernel
theorem dX8_writeMore_37 : decode cX8_writeMore 37 = .ok (.ifCond .le 13, 3) := by decide +kernel
theorem dX8_writeMore_40 : decode cX8_writeMore 40 = .ok (.aload_n 0, 1) := by decide +kernel
theorem dX8_writeMore_41 : decode cX8_writeMore 41 = .ok (.getfield 12, 3) := by decide +kernel
theorem dX8_writeMore_44 : decode cX8_writeMore 44 = .ok (.bipush 44, 2) := by decide +kernel
theorem dX8_writeMore_46 : decode cX8_writeMore 46 = .ok (.invokevirtual 57, 3) := by decide +kernel
theorem dX8_writeMore_49 : decode cX8_writeMore 49 = .ok (.pop, 1) := by decide +kernel
theorem dX8_writeMore_50 : decode cX8_writeMore 50 = .ok (.aload_n 0, 1) := by decide +kernel
theorem dX8_writeMore_51 : decode cX8_writeMore 51 = .ok (.getfield 21, 3) := by decide +kernel
theorem dX8_writeMore_54 : decode cX8_writeMore 54 = .ok (.lload_n 3, 1) := by decide +kernel
theorem dX8_writeMore_55 : decode cX8_writeMore 55 = .ok (.invokevirtual 67, 3) := by decide +kernel
theorem dX8_writeMore_58 : decode cX8_writeMore 58 = .ok (.aload_n 0, 1) := by decide +kernel
theorem dX8_writeMore_59 : decode cX8_writeMore 59 = .ok (.getfield 21, 3) := by decide +kernel
theorem dX8_writeMore_62 : decode cX8_writeMore 62 = .ok (.iload_n 2, 1) := by decide +kernel
theorem dX8_writeMore_63 : decode cX8_writeMore 63 = .ok (.iconst 1, 1) := by decide +kernel
theorem dX8_writeMore_64 : decode cX8_writeMore 64 = .ok (.iadd, 1) := by decide +kernel
theorem dX8_writeMore_65 : decode cX8_writeMore 65 = .ok (.i2l, 1) := by decide +kernel
theorem dX8_writeMore_66 : decode cX8_writeMore 66 = .ok (.invokevirtual 67, 3) := by decide +kernel
theorem dX8_writeMore_69 : decode cX8_writeMore 69 = .ok (.aload_n 0, 1) := by decide +kernel
theorem dX8_writeMore_70 : decode cX8_writeMore 70 = .ok (.aload_n 1, 1) := by decide +kernel
theorem dX8_writeMore_71 : decode cX8_writeMore 71 = .ok (.lload_n 3, 1) := by decide +kernel
theorem dX8_writeMore_72 : decode cX8_writeMore 72 = .ok (.iload_n 2, 1) := by decide +kernel
theorem dX8_writeMore_73 : decode cX8_writeMore 73 = .ok (.invokevirtual 74, 3) := by decide +kernel
theorem dX8_writeMore_76 : decode cX8_writeMore 76 = .ok (.invokevirtual 32, 3) := by decide +kernel
theorem dX8_writeMore_79 : decode cX8_writeMore 79 = .ok (.return_, 1) := by decide +kernel
theorem dX8_characterAt_0 : decode cX8_characterAt 0 = .ok (.iload_n 1, 1) := by decide +kernel
theorem dX8_characterAt_1 : decode cX8_characterAt 1 = .ok (.aload_n 0, 1) := by decide +kernel
theorem dX8_characterAt_2 : decode cX8_characterAt 2 = .ok (.getfield 12, 3) := by decide +kernel
theorem dX8_characterAt_5 : decode cX8_characterAt 5 = .ok (.invokevirtual 40, 3) := by decide +kernel
theorem dX8_characterAt_8 : decode cX8_characterAt 8 = .ok (.invokestatic 80, 3) := by decide +kernel
theorem dX8_characterAt_11 : decode cX8_characterAt 11 = .ok (.ifCond .eq 14, 3) := by decide +kernel
theorem dX8_characterAt_14 : decode cX8_characterAt 14 = .ok (.aload_n 0, 1) := by decide +kernel
theorem dX8_characterAt_15 : decode cX8_characterAt 15 = .ok (.getfield 12, 3) := by decide +kernel
theorem dX8_characterAt_18 : decode cX8_characterAt 18 = .ok (.iload_n 1, 1) := by decide +kernel
theorem dX8_characterAt_19 : decode cX8_characterAt 19 = .ok (.invokevirtual 84, 3) := by decide +kernel
theorem dX8_characterAt_22 : decode cX8_characterAt 22 = .ok (.goto 4, 3) := by decide +kernel
theorem dX8_characterAt_25 : decode cX8_characterAt 25 = .ok (.iconst (-1), 1) := by decide +kernel
theorem dX8_characterAt_26 : decode cX8_characterAt 26 = .ok (.ireturn, 1) := by decide +kernel
theorem dX9_cell_0 : decode cX9_cell 0 = .ok (.ldc2_w 9, 3) := by decide +kernel
theorem dX9_cell_3 : decode cX9_cell 3 = .ok (.iload_n 2, 1) := by decide +kernel
theorem dX9_cell_4 : decode cX9_cell 4 = .ok (.i2l, 1) := by decide +kernel
theorem dX9_cell_5 : decode cX9_cell 5 = .ok (.bipush 8, 2) := by decide +kernel
theorem dX9_cell_7 : decode cX9_cell 7 = .ok (.lshl, 1) := by decide +kernel
theorem dX9_cell_8 : decode cX9_cell 8 = .ok (.lor, 1) := by decide +kernel
theorem dX9_cell_9 : decode cX9_cell 9 = .ok (.iload_n 1, 1) := by decide +kernel
theorem dX9_cell_10 : decode cX9_cell 10 = .ok (.iconst 5, 1) := by decide +kernel
theorem dX9_cell_11 : decode cX9_cell 11 = .ok (.ishl, 1) := by decide +kernel
theorem dX9_cell_12 : decode cX9_cell 12 = .ok (.i2l, 1) := by decide +kernel
theorem dX9_cell_13 : decode cX9_cell 13 = .ok (.lor, 1) := by decide +kernel
theorem dX9_cell_14 : decode cX9_cell 14 = .ok (.iload_n 0, 1) := by decide +kernel
theorem dX9_cell_15 : decode cX9_cell 15 = .ok (.i2l, 1) := by decide +kernel
theorem dX9_cell_16 : decode cX9_cell 16 = .ok (.lor, 1) := by decide +kernel
theorem dX9_cell_17 : decode cX9_cell 17 = .ok (.lreturn, 1) := by decide +kernel
theorem dX9_isCell_0 : decode cX9_isCell 0 = .ok (.lload_n 0, 1) := by decide +kernel
theorem dX9_isCell_1 : decode cX9_isCell 1 = .ok (.ldc2_w 9, 3) := by decide +kernel
theorem dX9_isCell_4 : decode cX9_isCell 4 = .ok (.lcmp, 1) := by decide +kernel
theorem dX9_isCell_5 : decode cX9_isCell 5 = .ok (.ifCond .lt 7, 3) := by decide +kernel
theorem dX9_isCell_8 : decode cX9_isCell 8 = .ok (.iconst 1, 1) := by decide +kernel
theorem dX9_isCell_9 : decode cX9_isCell 9 = .ok (.goto 4, 3) := by decide +kernel
theorem dX9_isCell_12 : decode cX9_isCell 12 = .ok (.iconst 0, 1) := by decide +kernel
theorem dX9_isCell_13 : decode cX9_isCell 13 = .ok (.ireturn, 1) := by decide +kernel
theorem dX9_tag_0 : decode cX9_tag 0 = .ok (.lload_n 0, 1) := by decide +kernel
theorem dX9_tag_1 : decode cX9_tag 1 = .ok (.ldc2_w 11, 3) := by decide +kernel
theorem dX9_tag_4 : decode cX9_tag 4 = .ok (.land, 1) := by decide +kernel
theorem dX9_tag_5 : decode cX9_tag 5 = .ok (.l2i, 1) := by decide +kernel
theorem dX9_tag_6 : decode cX9_tag 6 = .ok (.ireturn, 1) := by decide +kernel
theorem dX9_fields_0 : decode cX9_fields 0 = .ok (.lload_n 0, 1) := by decide +kernel
theorem dX9_fields_1 : decode cX9_fields 1 = .ok (.iconst 5, 1) := by decide +kernel
theorem dX9_fields_2 : decode cX9_fields 2 = .ok (.lshr, 1) := by decide +kernel
theorem dX9_fields_3 : decode cX9_fields 3 = .ok (.ldc2_w 13, 3) := by decide +kernel
theorem dX9_fields_6 : decode cX9_fields 6 = .ok (.land, 1) := by decide +kernel
theorem dX9_fields_7 : decode cX9_fields 7 = .ok (.l2i, 1) := by decide +kernel
theorem dX9_fields_8 : decode cX9_fields 8 = .ok (.ireturn, 1) := by decide +kernel
theorem dX9_place_0 : decode cX9_place 0 = .ok (.lload_n 0, 1) := by decide +kernel
theorem dX9_place_1 : decode cX9_place 1 = .ok (.bipush 8, 2) := by decide +kernel
theorem dX9_place_3 : decode cX9_place 3 = .ok (.lshr, 1) := by decide +kernel
theorem dX9_place_4 : decode cX9_place 4 = .ok (.ldc2_w 15, 3) := by decide +kernel
theorem dX9_place_7 : decode cX9_place 7 = .ok (.land, 1) := by decide +kernel
theorem dX9_place_8 : decode cX9_place 8 = .ok (.l2i, 1) := by decide +kernel
theorem dX9_place_9 : decode cX9_place 9 = .ok (.ireturn, 1) := by decide +kernel
theorem dX9_hasTag_0 : decode cX9_hasTag 0 = .ok (.lload_n 0, 1) := by decide +kernel
theorem dX9_hasTag_1 : decode cX9_hasTag 1 = .ok (.invokestatic 17, 3) := by decide +kernel
theorem dX9_hasTag_4 : decode cX9_hasTag 4 = .ok (.ifCond .eq 15, 3) := by decide +kernel
theorem dX9_hasTag_7 : decode cX9_hasTag 7 = .ok (.lload_n 0, 1) := by decide +kernel
theorem dX9_hasTag_8 : decode cX9_hasTag 8 = .ok (.invokestatic 21, 3) := by decide +kernel
theorem dX9_hasTag_11 : decode cX9_hasTag 11 = .ok (.iload_n 2, 1) := by decide +kernel
theorem dX9_hasTag_12 : decode cX9_hasTag 12 = .ok (.if_icmp .ne 7, 3) := by decide +kernel
theorem dX9_hasTag_15 : decode cX9_hasTag 15 = .ok (.iconst 1, 1) := by decide +kernel
theorem dX9_hasTag_16 : decode cX9_hasTag 16 = .ok (.goto 4, 3) := by decide +kernel
theorem dX9_hasTag_19 : decode cX9_hasTag 19 = .ok (.iconst 0, 1) := by decide +kernel
theorem dX9_hasTag_20 : decode cX9_hasTag 20 = .ok (.ireturn, 1) := by decide +kernel
theorem dX9_differ_0 : decode cX9_differ 0 = .ok (.lload_n 0, 1) := by decide +kernel
theorem dX9_differ_1 : decode cX9_differ 1 = .ok (.invokestatic 17, 3) := by decide +kernel
theorem dX9_differ_4 : decode cX9_differ 4 = .ok (.ifCond .eq 30, 3) := by decide +kernel
theorem dX9_differ_7 : decode cX9_differ 7 = .ok (.lload_n 2, 1) := by decide +kernel
theorem dX9_differ_8 : decode cX9_differ 8 = .ok (.invokestatic 17, 3) := by decide +kernel
theorem dX9_differ_11 : decode cX9_differ 11 = .ok (.ifCond .eq 23, 3) := by decide +kernel
theorem dX9_differ_14 : decode cX9_differ 14 = .ok (.lload_n 0, 1) := by decide +kernel
theorem dX9_differ_15 : decode cX9_differ 15 = .ok (.ldc2_w 25, 3) := by decide +kernel
theorem dX9_differ_18 : decode cX9_differ 18 = .ok (.land, 1) := by decide +kernel
theorem dX9_differ_19 : decode cX9_differ 19 = .ok (.lload_n 2, 1) := by decide +kernel
theorem dX9_differ_20 : decode cX9_differ 20 = .ok (.ldc2_w 25, 3) := by decide +kernel
theorem dX9_differ_23 : decode cX9_differ 23 = .ok (.land, 1) := by decide +kernel
theorem dX9_differ_24 : decode cX9_differ 24 = .ok (.lcmp, 1) := by decide +kernel
theorem dX9_differ_25 : decode cX9_differ 25 = .ok (.ifCond .eq 7, 3) := by decide +kernel
theorem dX9_differ_28 : decode cX9_differ 28 = .ok (.iconst 1, 1) := by decide +kernel
theorem dX9_differ_29 : decode cX9_differ 29 = .ok (.goto 4, 3) := by decide +kernel
theorem dX9_differ_32 : decode cX9_differ 32 = .ok (.iconst 0, 1) := by decide +kernel
theorem dX9_differ_33 : decode cX9_differ 33 = .ok (.ireturn, 1) := by decide +kernel
theorem dX9_differ_34 : decode cX9_differ 34 = .ok (.lload_n 0, 1) := by decide +kernel
theorem dX9_differ_35 : decode cX9_differ 35 = .ok (.lload_n 2, 1) := by decide +kernel
theorem dX9_differ_36 : decode cX9_differ 36 = .ok (.lcmp, 1) := by decide +kernel
theorem dX9_differ_37 : decode cX9_differ 37 = .ok (.ifCond .eq 7, 3) := by decide +kernel
theorem dX9_differ_40 : decode cX9_differ 40 = .ok (.iconst 1, 1) := by decide +kernel
theorem dX9_differ_41 : decode cX9_differ 41 = .ok (.goto 4, 3) := by decide +kernel
theorem dX9_differ_44 : decode cX9_differ 44 = .ok (.iconst 0, 1) := by decide +kernel
theorem dX9_differ_45 : decode cX9_differ 45 = .ok (.ireturn, 1) := by decide +kernel
theorem dX9_shown_0 : decode cX9_shown 0 = .ok (.lload_n 0, 1) := by decide +kernel
theorem dX9_shown_1 : decode cX9_shown 1 = .ok (.invokestatic 17, 3) := by decide +kernel
theorem dX9_shown_4 : decode cX9_shown 4 = .ok (.ifCond .eq 15, 3) := by decide +kernel
theorem dX9_shown_7 : decode cX9_shown 7 = .ok (.ldc2_w 9, 3) := by decide +kernel
theorem dX9_shown_10 : decode cX9_shown 10 = .ok (.lload_n 0, 1) := by decide +kernel
theorem dX9_shown_11 : decode cX9_shown 11 = .ok (.invokestatic 21, 3) := by decide +kernel
theorem dX9_shown_14 : decode cX9_shown 14 = .ok (.i2l, 1) := by decide +kernel
theorem dX9_shown_15 : decode cX9_shown 15 = .ok (.ladd, 1) := by decide +kernel
theorem dX9_shown_16 : decode cX9_shown 16 = .ok (.goto 4, 3) := by decide +kernel
theorem dX9_shown_19 : decode cX9_shown 19 = .ok (.lload_n 0, 1) := by decide +kernel
theorem dX9_shown_20 : decode cX9_shown 20 = .ok (.lreturn, 1) := by decide +kernel
theorem dX10_init_0 : decode cX10_init 0 = .ok (.aload_n 0, 1) := by decide +kernel
theorem dX10_init_1 : decode cX10_init 1 = .ok (.invokespecial 1, 3) := by decide +kernel
theorem dX10_init_4 : decode cX10_init 4 = .ok (.aload_n 0, 1) := by decide +kernel
theorem dX10_init_5 : decode cX10_init 5 = .ok (.bipush 10, 2) := by decide +kernel
theorem dX10_init_7 : decode cX10_init 7 = .ok (.newarray .int, 2) := by decide +kernel
theorem dX10_init_9 : decode cX10_init 9 = .ok (.putfield 9, 3) := by decide +kernel
theorem dX10_init_12 : decode cX10_init 12 = .ok (.aload_n 0, 1) := by decide +kernel
theorem dX10_init_13 : decode cX10_init 13 = .ok (.new 13, 3) := by decide +kernel
theorem dX10_init_16 : decode cX10_init 16 = .ok (.dup, 1) := by decide +kernel
theorem dX10_init_17 : decode cX10_init 17 = .ok (.invokespecial 15, 3) := by decide +kernel
theorem dX10_init_20 : decode cX10_init 20 = .ok (.putfield 16, 3) := by decide +kernel
theorem dX10_init_23 : decode cX10_init 23 = .ok (.aload_n 0, 1) := by decide +kernel
theorem dX10_init_24 : decode cX10_init 24 = .ok (.new 20, 3) := by decide +kernel
theorem dX10_init_27 : decode cX10_init 27 = .ok (.dup, 1) := by decide +kernel
theorem dX10_init_28 : decode cX10_init 28 = .ok (.invokespecial 22, 3) := by decide +kernel
theorem dX10_init_31 : decode cX10_init 31 = .ok (.putfield 23, 3) := by decide +kernel
theorem dX10_init_34 : decode cX10_init 34 = .ok (.aload_n 0, 1) := by decide +kernel
theorem dX10_init_35 : decode cX10_init 35 = .ok (.new 27, 3) := by decide +kernel
theorem dX10_init_38 : decode cX10_init 38 = .ok (.dup, 1) := by decide +kernel
theorem dX10_init_39 : decode cX10_init 39 = .ok (.invokespecial 29, 3) := by decide +kernel
theorem dX10_init_42 : decode cX10_init 42 = .ok (.putfield 30, 3) := by decide +kernel
theorem dX10_init_45 : decode cX10_init 45 = .ok (.return_, 1) := by decide +kernel
theorem dX10_put_0 : decode cX10_put 0 = .ok (.aload_n 0, 1) := by decide +kernel
theorem dX10_put_1 : decode cX10_put 1 = .ok (.getfield 34, 3) := by decide +kernel
theorem dX10_put_4 : decode cX10_put 4 = .ok (.ifCond .lt 15, 3) := by decide +kernel
theorem dX10_put_7 : decode cX10_put 7 = .ok (.aload_n 0, 1) := by decide +kernel
theorem dX10_put_8 : decode cX10_put 8 = .ok (.getfield 34, 3) := by decide +kernel
theorem dX10_put_11 : decode cX10_put 11 = .ok (.aload_n 0, 1) := by decide +kernel
theorem dX10_put_12 : decode cX10_put 12 = .ok (.getfield 9, 3) := by decide +kernel
theorem dX10_put_15 : decode cX10_put 15 = .ok (.arraylength, 1) := by decide +kernel
theorem dX10_put_16 : decode cX10_put 16 = .ok (.if_icmp .lt 5, 3) := by decide +kernel
theorem dX10_put_19 : decode cX10_put 19 = .ok (.iconst 0, 1) := by decide +kernel
theorem dX10_put_20 : decode cX10_put 20 = .ok (.ireturn, 1) := by decide +kernel
theorem dX10_put_21 : decode cX10_put 21 = .ok (.aload_n 0, 1) := by decide +kernel
theorem dX10_put_22 : decode cX10_put 22 = .ok (.getfield 9, 3) := by decide +kernel
theorem dX10_put_25 : decode cX10_put 25 = .ok (.aload_n 0, 1) := by decide +kernel
theorem dX10_put_26 : decode cX10_put 26 = .ok (.getfield 34, 3) := by decide +kernel
theorem dX10_put_29 : decode cX10_put 29 = .ok (.iload_n 1, 1) := by decide +kernel
theorem dX10_put_30 : decode cX10_put 30 = .ok (.iastore, 1) := by decide +kernel
theorem dX10_put_31 : decode cX10_put 31 = .ok (.aload_n 0, 1) := by decide +kernel
theorem dX10_put_32 : decode cX10_put 32 = .ok (.dup, 1) := by decide +kernel
theorem dX10_put_33 : decode cX10_put 33 = .ok (.getfield 34, 3) := by decide +kernel
theorem dX10_put_36 : decode cX10_put 36 = .ok (.iconst 1, 1) := by decide +kernel
theorem dX10_put_37 : decode cX10_put 37 = .ok (.iadd, 1) := by decide +kernel
theorem dX10_put_38 : decode cX10_put 38 = .ok (.putfield 34, 3) := by decide +kernel
theorem dX10_put_41 : decode cX10_put 41 = .ok (.iconst 1, 1) := by decide +kernel
theorem dX10_put_42 : decode cX10_put 42 = .ok (.ireturn, 1) := by decide +kernel
theorem dX10_procedure_0 : decode cX10_procedure 0 = .ok (.aload_n 0, 1) := by decide +kernel
theorem dX10_procedure_1 : decode cX10_procedure 1 = .ok (.invokevirtual 38, 3) := by decide +kernel
theorem dX10_procedure_4 : decode cX10_procedure 4 = .ok (.astore 4, 2) := by decide +kernel
theorem dX10_procedure_6 : decode cX10_procedure 6 = .ok (.aload_n 0, 1) := by decide +kernel
theorem dX10_procedure_7 : decode cX10_procedure 7 = .ok (.getfield 16, 3) := by decide +kernel
theorem dX10_procedure_10 : decode cX10_procedure 10 = .ok (.invokevirtual 42, 3) := by decide +kernel
theorem dX10_procedure_13 : decode cX10_procedure 13 = .ok (.bipush 60, 2) := by decide +kernel
theorem dX10_procedure_15 : decode cX10_procedure 15 = .ok (.if_icmp .ge 13, 3) := by decide +kernel
theorem dX10_procedure_18 : decode cX10_procedure 18 = .ok (.iload_n 2, 1) := by decide +kernel
theorem dX10_procedure_19 : decode cX10_procedure 19 = .ok (.iload_n 3, 1) := by decide +kernel
theorem dX10_procedure_20 : decode cX10_procedure 20 = .ok (.aload 4, 2) := by decide +kernel
theorem dX10_procedure_22 : decode cX10_procedure 22 = .ok (.invokestatic 46, 3) := by decide +kernel
theorem dX10_procedure_25 : decode cX10_procedure 25 = .ok (.ifCond .ne 5, 3) := by decide +kernel
theorem dX10_procedure_28 : decode cX10_procedure 28 = .ok (.iconst (-1), 1) := by decide +kernel
theorem dX10_procedure_29 : decode cX10_procedure 29 = .ok (.ireturn, 1) := by decide +kernel
theorem dX10_procedure_30 : decode cX10_procedure 30 = .ok (.aload_n 0, 1) := by decide +kernel
theorem dX10_procedure_31 : decode cX10_procedure 31 = .ok (.getfield 16, 3) := by decide +kernel
theorem dX10_procedure_34 : decode cX10_procedure 34 = .ok (.new 47, 3) := by decide +kernel
theorem dX10_procedure_37 : decode cX10_procedure 37 = .ok (.dup, 1) := by decide +kernel
theorem dX10_procedure_38 : decode cX10_procedure 38 = .ok (.iload_n 1, 1) := by decide +kernel
theorem dX10_procedure_39 : decode cX10_procedure 39 = .ok (.iload_n 2, 1) := by decide +kernel
theorem dX10_procedure_40 : decode cX10_procedure 40 = .ok (.iload_n 3, 1) := by decide +kernel
theorem dX10_procedure_41 : decode cX10_procedure 41 = .ok (.aload 4, 2) := by decide +kernel
theorem dX10_procedure_43 : decode cX10_procedure 43 = .ok (.invokespecial 52, 3) := by decide +kernel
theorem dX10_procedure_46 : decode cX10_procedure 46 = .ok (.invokevirtual 55, 3) := by decide +kernel
theorem dX10_procedure_49 : decode cX10_procedure 49 = .ok (.pop, 1) := by decide +kernel
theorem dX10_procedure_50 : decode cX10_procedure 50 = .ok (.aload_n 0, 1) := by decide +kernel
theorem dX10_procedure_51 : decode cX10_procedure 51 = .ok (.getfield 16, 3) := by decide +kernel
theorem dX10_procedure_54 : decode cX10_procedure 54 = .ok (.invokevirtual 42, 3) := by decide +kernel
theorem dX10_procedure_57 : decode cX10_procedure 57 = .ok (.iconst 1, 1) := by decide +kernel
theorem dX10_procedure_58 : decode cX10_procedure 58 = .ok (.isub, 1) := by decide +kernel
theorem dX10_procedure_59 : decode cX10_procedure 59 = .ok (.ireturn, 1) := by decide +kernel
theorem dX10_add_0 : decode cX10_add 0 = .ok (.new 59, 3) := by decide +kernel
theorem dX10_add_3 : decode cX10_add 3 = .ok (.dup, 1) := by decide +kernel
theorem dX10_add_4 : decode cX10_add 4 = .ok (.iload_n 2, 1) := by decide +kernel
theorem dX10_add_5 : decode cX10_add 5 = .ok (.iload_n 3, 1) := by decide +kernel
theorem dX10_add_6 : decode cX10_add 6 = .ok (.iload 4, 2) := by decide +kernel
theorem dX10_add_8 : decode cX10_add 8 = .ok (.iload 5, 2) := by decide +kernel
theorem dX10_add_10 : decode cX10_add 10 = .ok (.iload 6, 2) := by decide +kernel
theorem dX10_add_12 : decode cX10_add 12 = .ok (.aload_n 0, 1) := by decide +kernel
theorem dX10_add_13 : decode cX10_add 13 = .ok (.invokevirtual 38, 3) := by decide +kernel
theorem dX10_add_16 : decode cX10_add 16 = .ok (.invokespecial 61, 3) := by decide +kernel
theorem dX10_add_19 : decode cX10_add 19 = .ok (.astore 7, 2) := by decide +kernel
theorem dX10_add_21 : decode cX10_add 21 = .ok (.iload_n 2, 1) := by decide +kernel
theorem dX10_add_22 : decode cX10_add 22 = .ok (.bipush 10, 2) := by decide +kernel
theorem dX10_add_24 : decode cX10_add 24 = .ok (.if_icmp .ne 13, 3) := by decide +kernel
theorem dX10_add_27 : decode cX10_add 27 = .ok (.aload 7, 2) := by decide +kernel
theorem dX10_add_29 : decode cX10_add 29 = .ok (.aload_n 0, 1) := by decide +kernel
theorem dX10_add_30 : decode cX10_add 30 = .ok (.iload_n 3, 1) := by decide +kernel
theorem dX10_add_31 : decode cX10_add 31 = .ok (.invokevirtual 64, 3) := by decide +kernel
theorem dX10_add_34 : decode cX10_add 34 = .ok (.putfield 68, 3) := by decide +kernel
theorem dX10_add_37 : decode cX10_add 37 = .ok (.aload_n 0, 1) := by decide +kernel
theorem dX10_add_38 : decode cX10_add 38 = .ok (.iload_n 1, 1) := by decide +kernel
theorem dX10_add_39 : decode cX10_add 39 = .ok (.invokevirtual 64, 3) := by decide +kernel
theorem dX10_add_42 : decode cX10_add 42 = .ok (.astore 8, 2) := by decide +kernel
theorem dX10_add_44 : decode cX10_add 44 = .ok (.aload 8, 2) := by decide +kernel
theorem dX10_add_46 : decode cX10_add 46 = .ok (.ifnull 23, 3) := by decide +kernel
theorem dX10_add_49 : decode cX10_add 49 = .ok (.aload_n 0, 1) := by decide +kernel
theorem dX10_add_50 : decode cX10_add 50 = .ok (.getfield 72, 3) := by decide +kernel
theorem dX10_add_53 : decode cX10_add 53 = .ok (.sipush 2000, 3) := by decide +kernel
theorem dX10_add_56 : decode cX10_add 56 = .ok (.if_icmp .ge 13, 3) := by decide +kernel
theorem dX10_add_59 : decode cX10_add 59 = .ok (.aload 8, 2) := by decide +kernel
theorem dX10_add_61 : decode cX10_add 61 = .ok (.aload 7, 2) := by decide +kernel
theorem dX10_add_63 : decode cX10_add 63 = .ok (.invokevirtual 75, 3) := by decide +kernel
theorem dX10_add_66 : decode cX10_add 66 = .ok (.ifCond .ne 5, 3) := by decide +kernel
theorem dX10_add_69 : decode cX10_add 69 = .ok (.iconst (-1), 1) := by decide +kernel
theorem dX10_add_70 : decode cX10_add 70 = .ok (.ireturn, 1) := by decide +kernel
theorem dX10_add_71 : decode cX10_add 71 = .ok (.aload_n 0, 1) := by decide +kernel
theorem dX10_add_72 : decode cX10_add 72 = .ok (.dup, 1) := by decide +kernel
theorem dX10_add_73 : decode cX10_add 73 = .ok (.getfield 72, 3) := by decide +kernel
theorem dX10_add_76 : decode cX10_add 76 = .ok (.iconst 1, 1) := by decide +kernel
theorem dX10_add_77 : decode cX10_add 77 = .ok (.iadd, 1) := by decide +kernel
theorem dX10_add_78 : decode cX10_add 78 = .ok (.putfield 72, 3) := by decide +kernel
theorem dX10_add_81 : decode cX10_add 81 = .ok (.aload 8, 2) := by decide +kernel
theorem dX10_add_83 : decode cX10_add 83 = .ok (.aload 7, 2) := by decide +kernel
theorem dX10_add_85 : decode cX10_add 85 = .ok (.invokevirtual 79, 3) := by decide +kernel
theorem dX10_add_88 : decode cX10_add 88 = .ok (.ireturn, 1) := by decide +kernel
theorem dX10_begin_0 : decode cX10_begin 0 = .ok (.aload_n 0, 1) := by decide +kernel
theorem dX10_begin_1 : decode cX10_begin 1 = .ok (.invokevirtual 38, 3) := by decide +kernel
theorem dX10_begin_4 : decode cX10_begin 4 = .ok (.astore 4, 2) := by decide +kernel
theorem dX10_begin_6 : decode cX10_begin 6 = .ok (.aload_n 0, 1) := by decide +kernel
theorem dX10_begin_7 : decode cX10_begin 7 = .ok (.iload_n 1, 1) := by decide +kernel
theorem dX10_begin_8 : decode cX10_begin 8 = .ok (.invokevirtual 64, 3) := by decide +kernel
theorem dX10_begin_11 : decode cX10_begin 11 = .ok (.astore 5, 2) := by decide +kernel
theorem dX10_begin_13 : decode cX10_begin 13 = .ok (.aload 5, 2) := by decide +kernel
theorem dX10_begin_15 : decode cX10_begin 15 = .ok (.ifnull 37, 3) := by decide +kernel
theorem dX10_begin_18 : decode cX10_begin 18 = .ok (.aload 4, 2) := by decide +kernel
theorem dX10_begin_20 : decode cX10_begin 20 = .ok (.arraylength, 1) := by decide +kernel
theorem dX10_begin_21 : decode cX10_begin 21 = .ok (.aload 5, 2) := by decide +kernel
theorem dX10_begin_23 : decode cX10_begin 23 = .ok (.getfield 83, 3) := by decide +kernel
theorem dX10_begin_26 : decode cX10_begin 26 = .ok (.if_icmp .ne 26, 3) := by decide +kernel
theorem dX10_begin_29 : decode cX10_begin 29 = .ok (.iload_n 2, 1) := by decide +kernel
theorem dX10_begin_30 : decode cX10_begin 30 = .ok (.invokestatic 86, 3) := by decide +kernel
theorem dX10_begin_33 : decode cX10_begin 33 = .ok (.ifCond .eq 19, 3) := by decide +kernel
theorem dX10_begin_36 : decode cX10_begin 36 = .ok (.iload_n 3, 1) := by decide +kernel
theorem dX10_begin_37 : decode cX10_begin 37 = .ok (.invokestatic 86, 3) := by decide +kernel
theorem dX10_begin_40 : decode cX10_begin 40 = .ok (.ifCond .eq 12, 3) := by decide +kernel
theorem dX10_begin_43 : decode cX10_begin 43 = .ok (.aload 5, 2) := by decide +kernel
theorem dX10_begin_45 : decode cX10_begin 45 = .ok (.invokevirtual 90, 3) := by decide +kernel
theorem dX10_begin_48 : decode cX10_begin 48 = .ok (.iload_n 2, 1) := by decide +kernel
theorem dX10_begin_49 : decode cX10_begin 49 = .ok (.if_icmp .le 5, 3) := by decide +kernel
theorem dX10_begin_52 : decode cX10_begin 52 = .ok (.iconst 0, 1) := by decide +kernel
theorem dX10_begin_53 : decode cX10_begin 53 = .ok (.ireturn, 1) := by decide +kernel
theorem dX10_begin_54 : decode cX10_begin 54 = .ok (.aload_n 0, 1) := by decide +kernel
theorem dX10_begin_55 : decode cX10_begin 55 = .ok (.getfield 23, 3) := by decide +kernel
theorem dX10_begin_58 : decode cX10_begin 58 = .ok (.aload 5, 2) := by decide +kernel
theorem dX10_begin_60 : decode cX10_begin 60 = .ok (.aload 4, 2) := by decide +kernel
theorem dX10_begin_62 : decode cX10_begin 62 = .ok (.iload_n 2, 1) := by decide +kernel
theorem dX10_begin_63 : decode cX10_begin 63 = .ok (.iload_n 3, 1) := by decide +kernel
theorem dX10_begin_64 : decode cX10_begin 64 = .ok (.invokevirtual 93, 3) := by decide +kernel
theorem dX10_begin_67 : decode cX10_begin 67 = .ok (.iconst 1, 1) := by decide +kernel
theorem dX10_begin_68 : decode cX10_begin 68 = .ok (.ireturn, 1) := by decide +kernel
theorem dX10_run_0 : decode cX10_run 0 = .ok (.aload_n 0, 1) := by decide +kernel
theorem dX10_run_1 : decode cX10_run 1 = .ok (.getfield 23, 3) := by decide +kernel
theorem dX10_run_4 : decode cX10_run 4 = .ok (.iload_n 1, 1) := by decide +kernel
theorem dX10_run_5 : decode cX10_run 5 = .ok (.invokevirtual 97, 3) := by decide +kernel
theorem dX10_run_8 : decode cX10_run 8 = .ok (.ireturn, 1) := by decide +kernel
theorem dX10_told_0 : decode cX10_told 0 = .ok (.aload_n 0, 1) := by decide +kernel
theorem dX10_told_1 : decode cX10_told 1 = .ok (.getfield 23, 3) := by decide +kernel
theorem dX10_told_4 : decode cX10_told 4 = .ok (.iload_n 1, 1) := by decide +kernel
theorem dX10_told_5 : decode cX10_told 5 = .ok (.invokevirtual 101, 3) := by decide +kernel
theorem dX10_told_8 : decode cX10_told 8 = .ok (.ireturn, 1) := by decide +kernel
theorem dX10_tell_0 : decode cX10_tell 0 = .ok (.aload_n 0, 1) := by decide +kernel
theorem dX10_tell_1 : decode cX10_tell 1 = .ok (.getfield 23, 3) := by decide +kernel
theorem dX10_tell_4 : decode cX10_tell 4 = .ok (.iload_n 1, 1) := by decide +kernel
theorem dX10_tell_5 : decode cX10_tell 5 = .ok (.invokevirtual 104, 3) := by decide +kernel
theorem dX10_tell_8 : decode cX10_tell 8 = .ok (.ifCond .ne 13, 3) := by decide +kernel
theorem dX10_tell_11 : decode cX10_tell 11 = .ok (.new 107, 3) := by decide +kernel
theorem dX10_tell_14 : decode cX10_tell 14 = .ok (.dup, 1) := by decide +kernel
theorem dX10_tell_15 : decode cX10_tell 15 = .ok (.ldc 109, 2) := by decide +kernel
theorem dX10_tell_17 : decode cX10_tell 17 = .ok (.invokespecial 111, 3) := by decide +kernel
theorem dX10_tell_20 : decode cX10_tell 20 = .ok (.athrow, 1) := by decide +kernel
theorem dX10_tell_21 : decode cX10_tell 21 = .ok (.aload_n 0, 1) := by decide +kernel
theorem dX10_tell_22 : decode cX10_tell 22 = .ok (.getfield 30, 3) := by decide +kernel
theorem dX10_tell_25 : decode cX10_tell 25 = .ok (.aload_n 0, 1) := by decide +kernel
theorem dX10_tell_26 : decode cX10_tell 26 = .ok (.getfield 23, 3) := by decide +kernel
theorem dX10_tell_29 : decode cX10_tell 29 = .ok (.iload_n 1, 1) := by decide +kernel
theorem dX10_tell_30 : decode cX10_tell 30 = .ok (.invokevirtual 114, 3) := by decide +kernel
theorem dX10_tell_33 : decode cX10_tell 33 = .ok (.aload_n 0, 1) := by decide +kernel
theorem dX10_tell_34 : decode cX10_tell 34 = .ok (.getfield 23, 3) := by decide +kernel
theorem dX10_tell_37 : decode cX10_tell 37 = .ok (.getfield 118, 3) := by decide +kernel
theorem dX10_tell_40 : decode cX10_tell 40 = .ok (.invokevirtual 122, 3) := by decide +kernel
theorem dX10_tell_43 : decode cX10_tell 43 = .ok (.ireturn, 1) := by decide +kernel
theorem dX10_letter_0 : decode cX10_letter 0 = .ok (.aload_n 0, 1) := by decide +kernel
theorem dX10_letter_1 : decode cX10_letter 1 = .ok (.getfield 30, 3) := by decide +kernel
theorem dX10_letter_4 : decode cX10_letter 4 = .ok (.iload_n 1, 1) := by decide +kernel
theorem dX10_letter_5 : decode cX10_letter 5 = .ok (.invokevirtual 126, 3) := by decide +kernel
theorem dX10_letter_8 : decode cX10_letter 8 = .ok (.ireturn, 1) := by decide +kernel
theorem dX10_slot_0 : decode cX10_slot 0 = .ok (.aload_n 0, 1) := by decide +kernel
theorem dX10_slot_1 : decode cX10_slot 1 = .ok (.getfield 23, 3) := by decide +kernel
theorem dX10_slot_4 : decode cX10_slot 4 = .ok (.iload_n 1, 1) := by decide +kernel
theorem dX10_slot_5 : decode cX10_slot 5 = .ok (.invokevirtual 129, 3) := by decide +kernel
theorem dX10_slot_8 : decode cX10_slot 8 = .ok (.lreturn, 1) := by decide +kernel
theorem dX10_takeRow_0 : decode cX10_takeRow 0 = .ok (.aload_n 0, 1) := by decide +kernel
theorem dX10_takeRow_1 : decode cX10_takeRow 1 = .ok (.getfield 9, 3) := by decide +kernel
theorem dX10_takeRow_4 : decode cX10_takeRow 4 = .ok (.aload_n 0, 1) := by decide +kernel
theorem dX10_takeRow_5 : decode cX10_takeRow 5 = .ok (.getfield 34, 3) := by decide +kernel
theorem dX10_takeRow_8 : decode cX10_takeRow 8 = .ok (.iconst 0, 1) := by decide +kernel
theorem dX10_takeRow_9 : decode cX10_takeRow 9 = .ok (.invokestatic 132, 3) := by decide +kernel
theorem dX10_takeRow_12 : decode cX10_takeRow 12 = .ok (.invokestatic 138, 3) := by decide +kernel
theorem dX10_takeRow_15 : decode cX10_takeRow 15 = .ok (.astore_n 1, 1) := by decide +kernel
theorem dX10_takeRow_16 : decode cX10_takeRow 16 = .ok (.aload_n 0, 1) := by decide +kernel
theorem dX10_takeRow_17 : decode cX10_takeRow 17 = .ok (.iconst 0, 1) := by decide +kernel
theorem dX10_takeRow_18 : decode cX10_takeRow 18 = .ok (.putfield 34, 3) := by decide +kernel
theorem dX10_takeRow_21 : decode cX10_takeRow 21 = .ok (.aload_n 1, 1) := by decide +kernel
theorem dX10_takeRow_22 : decode cX10_takeRow 22 = .ok (.areturn, 1) := by decide +kernel
theorem dX10_procedureAt_0 : decode cX10_procedureAt 0 = .ok (.iload_n 1, 1) := by decide +kernel
theorem dX10_procedureAt_1 : decode cX10_procedureAt 1 = .ok (.aload_n 0, 1) := by decide +kernel
theorem dX10_procedureAt_2 : decode cX10_procedureAt 2 = .ok (.getfield 16, 3) := by decide +kernel
theorem dX10_procedureAt_5 : decode cX10_procedureAt 5 = .ok (.invokevirtual 42, 3) := by decide +kernel
theorem dX10_procedureAt_8 : decode cX10_procedureAt 8 = .ok (.invokestatic 144, 3) := by decide +kernel
theorem dX10_procedureAt_11 : decode cX10_procedureAt 11 = .ok (.ifCond .eq 17, 3) := by decide +kernel
theorem dX10_procedureAt_14 : decode cX10_procedureAt 14 = .ok (.aload_n 0, 1) := by decide +kernel
theorem dX10_procedureAt_15 : decode cX10_procedureAt 15 = .ok (.getfield 16, 3) := by decide +kernel
theorem dX10_procedureAt_18 : decode cX10_procedureAt 18 = .ok (.iload_n 1, 1) := by decide +kernel
theorem dX10_procedureAt_19 : decode cX10_procedureAt 19 = .ok (.invokevirtual 148, 3) := by decide +kernel
theorem dX10_procedureAt_22 : decode cX10_procedureAt 22 = .ok (.checkcast 47, 3) := by decide +kernel
theorem dX10_procedureAt_25 : decode cX10_procedureAt 25 = .ok (.goto 4, 3) := by decide +kernel
theorem dX10_procedureAt_28 : decode cX10_procedureAt 28 = .ok (.aconst_null, 1) := by decide +kernel
theorem dX10_procedureAt_29 : decode cX10_procedureAt 29 = .ok (.areturn, 1) := by decide +kernel
theorem dX10_within_0 : decode cX10_within 0 = .ok (.iload_n 0, 1) := by decide +kernel
theorem dX10_within_1 : decode cX10_within 1 = .ok (.ifCond .lt 12, 3) := by decide +kernel
theorem dX10_within_4 : decode cX10_within 4 = .ok (.iload_n 0, 1) := by decide +kernel
theorem dX10_within_5 : decode cX10_within 5 = .ok (.iload_n 1, 1) := by decide +kernel
theorem dX10_within_6 : decode cX10_within 6 = .ok (.if_icmp .ge 7, 3) := by decide +kernel
theorem dX10_within_9 : decode cX10_within 9 = .ok (.iconst 1, 1) := by decide +kernel
theorem dX10_within_10 : decode cX10_within 10 = .ok (.goto 4, 3) := by decide +kernel
theorem dX10_within_13 : decode cX10_within 13 = .ok (.iconst 0, 1) := by decide +kernel
theorem dX10_within_14 : decode cX10_within 14 = .ok (.ireturn, 1) := by decide +kernel
theorem dX10_isLimit_0 : decode cX10_isLimit 0 = .ok (.iload_n 0, 1) := by decide +kernel
theorem dX10_isLimit_1 : decode cX10_isLimit 1 = .ok (.ifCond .lt 14, 3) := by decide +kernel
theorem dX10_isLimit_4 : decode cX10_isLimit 4 = .ok (.iload_n 0, 1) := by decide +kernel
theorem dX10_isLimit_5 : decode cX10_isLimit 5 = .ok (.sipush 20000, 3) := by decide +kernel
theorem dX10_isLimit_8 : decode cX10_isLimit 8 = .ok (.if_icmp .gt 7, 3) := by decide +kernel
theorem dX10_isLimit_11 : decode cX10_isLimit 11 = .ok (.iconst 1, 1) := by decide +kernel
theorem dX10_isLimit_12 : decode cX10_isLimit 12 = .ok (.goto 4, 3) := by decide +kernel
theorem dX10_isLimit_15 : decode cX10_isLimit 15 = .ok (.iconst 0, 1) := by decide +kernel
theorem dX10_isLimit_16 : decode cX10_isLimit 16 = .ok (.ireturn, 1) := by decide +kernel
theorem dX11_init_0 : decode cX11_init 0 = .ok (.aload_n 0, 1) := by decide +kernel
theorem dX11_init_1 : decode cX11_init 1 = .ok (.invokespecial 1, 3) := by decide +kernel
theorem dX11_init_4 : decode cX11_init 4 = .ok (.aload_n 0, 1) := by decide +kernel
theorem dX11_init_5 : decode cX11_init 5 = .ok (.bipush 10, 2) := by decide +kernel
theorem dX11_init_7 : decode cX11_init 7 = .ok (.newarray .int, 2) := by decide +kernel
theorem dX11_init_9 : decode cX11_init 9 = .ok (.putfield 7, 3) := by decide +kernel
theorem dX11_init_12 : decode cX11_init 12 = .ok (.aload_n 0, 1) := by decide +kernel
theorem dX11_init_13 : decode cX11_init 13 = .ok (.bipush 60, 2) := by decide +kernel
theorem dX11_init_15 : decode cX11_init 15 = .ok (.newarray .boolean, 2) := by decide +kernel
theorem dX11_init_17 : decode cX11_init 17 = .ok (.putfield 13, 3) := by decide +kernel
theorem dX11_init_20 : decode cX11_init 20 = .ok (.aload_n 0, 1) := by decide +kernel
theorem dX11_init_21 : decode cX11_init 21 = .ok (.bipush 60, 2) := by decide +kernel
theorem dX11_init_23 : decode cX11_init 23 = .ok (.newarray .int, 2) := by decide +kernel
theorem dX11_init_25 : decode cX11_init 25 = .ok (.putfield 17, 3) := by decide +kernel
theorem dX11_init_28 : decode cX11_init 28 = .ok (.aload_n 0, 1) := by decide +kernel
theorem dX11_init_29 : decode cX11_init 29 = .ok (.bipush 60, 2) := by decide +kernel
theorem dX11_init_31 : decode cX11_init 31 = .ok (.newarray .int, 2) := by decide +kernel
theorem dX11_init_33 : decode cX11_init 33 = .ok (.putfield 20, 3) := by decide +kernel
theorem dX11_init_36 : decode cX11_init 36 = .ok (.aload_n 0, 1) := by decide +kernel
theorem dX11_init_37 : decode cX11_init 37 = .ok (.bipush 60, 2) := by decide +kernel
theorem dX11_init_39 : decode cX11_init 39 = .ok (.newarray .int, 2) := by decide +kernel
theorem dX11_init_41 : decode cX11_init 41 = .ok (.putfield 23, 3) := by decide +kernel
theorem dX11_init_44 : decode cX11_init 44 = .ok (.aload_n 0, 1) := by decide +kernel
theorem dX11_init_45 : decode cX11_init 45 = .ok (.sipush 480, 3) := by decide +kernel
theorem dX11_init_48 : decode cX11_init 48 = .ok (.newarray .int, 2) := by decide +kernel
theorem dX11_init_50 : decode cX11_init 50 = .ok (.putfield 26, 3) := by decide +kernel
theorem dX11_init_53 : decode cX11_init 53 = .ok (.aload_n 0, 1) := by decide +kernel
theorem dX11_init_54 : decode cX11_init 54 = .ok (.bipush 60, 2) := by decide +kernel
theorem dX11_init_56 : decode cX11_init 56 = .ok (.newarray .int, 2) := by decide +kernel
theorem dX11_init_58 : decode cX11_init 58 = .ok (.putfield 29, 3) := by decide +kernel
theorem dX11_init_61 : decode cX11_init 61 = .ok (.aload_n 0, 1) := by decide +kernel
theorem dX11_init_62 : decode cX11_init 62 = .ok (.ldc 32, 2) := by decide +kernel
theorem dX11_init_64 : decode cX11_init 64 = .ok (.newarray .int, 2) := by decide +kernel
theorem dX11_init_66 : decode cX11_init 66 = .ok (.putfield 33, 3) := by decide +kernel
theorem dX11_init_69 : decode cX11_init 69 = .ok (.aload_n 0, 1) := by decide +kernel
theorem dX11_init_70 : decode cX11_init 70 = .ok (.sipush 2000, 3) := by decide +kernel
theorem dX11_init_73 : decode cX11_init 73 = .ok (.newarray .int, 2) := by decide +kernel
theorem dX11_init_75 : decode cX11_init 75 = .ok (.putfield 36, 3) := by decide +kernel
theorem dX11_init_78 : decode cX11_init 78 = .ok (.aload_n 0, 1) := by decide +kernel
theorem dX11_init_79 : decode cX11_init 79 = .ok (.sipush 2000, 3) := by decide +kernel
theorem dX11_init_82 : decode cX11_init 82 = .ok (.newarray .int, 2) := by decide +kernel
theorem dX11_init_84 : decode cX11_init 84 = .ok (.putfield 39, 3) := by decide +kernel
theorem dX11_init_87 : decode cX11_init 87 = .ok (.aload_n 0, 1) := by decide +kernel
theorem dX11_init_88 : decode cX11_init 88 = .ok (.sipush 2000, 3) := by decide +kernel
theorem dX11_init_91 : decode cX11_init 91 = .ok (.newarray .int, 2) := by decide +kernel
theorem dX11_init_93 : decode cX11_init 93 = .ok (.putfield 42, 3) := by decide +kernel
theorem dX11_init_96 : decode cX11_init 96 = .ok (.aload_n 0, 1) := by decide +kernel
theorem dX11_init_97 : decode cX11_init 97 = .ok (.sipush 2000, 3) := by decide +kernel
theorem dX11_init_100 : decode cX11_init 100 = .ok (.newarray .int, 2) := by decide +kernel
theorem dX11_init_102 : decode cX11_init 102 = .ok (.putfield 45, 3) := by decide +kernel
theorem dX11_init_105 : decode cX11_init 105 = .ok (.aload_n 0, 1) := by decide +kernel
theorem dX11_init_106 : decode cX11_init 106 = .ok (.sipush 2000, 3) := by decide +kernel
theorem dX11_init_109 : decode cX11_init 109 = .ok (.newarray .int, 2) := by decide +kernel
theorem dX11_init_111 : decode cX11_init 111 = .ok (.putfield 48, 3) := by decide +kernel
theorem dX11_init_114 : decode cX11_init 114 = .ok (.aload_n 0, 1) := by decide +kernel
theorem dX11_init_115 : decode cX11_init 115 = .ok (.sipush 2000, 3) := by decide +kernel
theorem dX11_init_118 : decode cX11_init 118 = .ok (.newarray .int, 2) := by decide +kernel
theorem dX11_init_120 : decode cX11_init 120 = .ok (.putfield 51, 3) := by decide +kernel
theorem dX11_init_123 : decode cX11_init 123 = .ok (.aload_n 0, 1) := by decide +kernel
theorem dX11_init_124 : decode cX11_init 124 = .ok (.sipush 20000, 3) := by decide +kernel
theorem dX11_init_127 : decode cX11_init 127 = .ok (.newarray .int, 2) := by decide +kernel
theorem dX11_init_129 : decode cX11_init 129 = .ok (.putfield 54, 3) := by decide +kernel
theorem dX11_init_132 : decode cX11_init 132 = .ok (.aload_n 0, 1) := by decide +kernel
theorem dX11_init_133 : decode cX11_init 133 = .ok (.sipush 20100, 3) := by decide +kernel
theorem dX11_init_136 : decode cX11_init 136 = .ok (.newarray .int, 2) := by decide +kernel
theorem dX11_init_138 : decode cX11_init 138 = .ok (.putfield 57, 3) := by decide +kernel
theorem dX11_init_141 : decode cX11_init 141 = .ok (.aload_n 0, 1) := by decide +kernel
theorem dX11_init_142 : decode cX11_init 142 = .ok (.sipush 20100, 3) := by decide +kernel
theorem dX11_init_145 : decode cX11_init 145 = .ok (.newarray .int, 2) := by decide +kernel
theorem dX11_init_147 : decode cX11_init 147 = .ok (.putfield 60, 3) := by decide +kernel
theorem dX11_init_150 : decode cX11_init 150 = .ok (.aload_n 0, 1) := by decide +kernel
theorem dX11_init_151 : decode cX11_init 151 = .ok (.sipush 20100, 3) := by decide +kernel
theorem dX11_init_154 : decode cX11_init 154 = .ok (.newarray .int, 2) := by decide +kernel
theorem dX11_init_156 : decode cX11_init 156 = .ok (.putfield 63, 3) := by decide +kernel
theorem dX11_init_159 : decode cX11_init 159 = .ok (.aload_n 0, 1) := by decide +kernel
theorem dX11_init_160 : decode cX11_init 160 = .ok (.sipush 20100, 3) := by decide +kernel
theorem dX11_init_163 : decode cX11_init 163 = .ok (.newarray .long, 2) := by decide +kernel
theorem dX11_init_165 : decode cX11_init 165 = .ok (.putfield 66, 3) := by decide +kernel
theorem dX11_init_168 : decode cX11_init 168 = .ok (.aload_n 0, 1) := by decide +kernel
theorem dX11_init_169 : decode cX11_init 169 = .ok (.sipush 7000, 3) := by decide +kernel
theorem dX11_init_172 : decode cX11_init 172 = .ok (.newarray .boolean, 2) := by decide +kernel
theorem dX11_init_174 : decode cX11_init 174 = .ok (.putfield 70, 3) := by decide +kernel
theorem dX11_init_177 : decode cX11_init 177 = .ok (.aload_n 0, 1) := by decide +kernel
theorem dX11_init_178 : decode cX11_init 178 = .ok (.sipush 7000, 3) := by decide +kernel
theorem dX11_init_181 : decode cX11_init 181 = .ok (.newarray .int, 2) := by decide +kernel
theorem dX11_init_183 : decode cX11_init 183 = .ok (.putfield 73, 3) := by decide +kernel
theorem dX11_init_186 : decode cX11_init 186 = .ok (.aload_n 0, 1) := by decide +kernel
theorem dX11_init_187 : decode cX11_init 187 = .ok (.sipush 7000, 3) := by decide +kernel
theorem dX11_init_190 : decode cX11_init 190 = .ok (.newarray .int, 2) := by decide +kernel
theorem dX11_init_192 : decode cX11_init 192 = .ok (.putfield 76, 3) := by decide +kernel
theorem dX11_init_195 : decode cX11_init 195 = .ok (.aload_n 0, 1) := by decide +kernel
theorem dX11_init_196 : decode cX11_init 196 = .ok (.sipush 7000, 3) := by decide +kernel
theorem dX11_init_199 : decode cX11_init 199 = .ok (.newarray .int, 2) := by decide +kernel
theorem dX11_init_201 : decode cX11_init 201 = .ok (.putfield 79, 3) := by decide +kernel
theorem dX11_init_204 : decode cX11_init 204 = .ok (.aload_n 0, 1) := by decide +kernel
theorem dX11_init_205 : decode cX11_init 205 = .ok (.sipush 7000, 3) := by decide +kernel
theorem dX11_init_208 : decode cX11_init 208 = .ok (.newarray .int, 2) := by decide +kernel
theorem dX11_init_210 : decode cX11_init 210 = .ok (.putfield 82, 3) := by decide +kernel
theorem dX11_init_213 : decode cX11_init 213 = .ok (.aload_n 0, 1) := by decide +kernel
theorem dX11_init_214 : decode cX11_init 214 = .ok (.sipush 7000, 3) := by decide +kernel
theorem dX11_init_217 : decode cX11_init 217 = .ok (.newarray .int, 2) := by decide +kernel
theorem dX11_init_219 : decode cX11_init 219 = .ok (.putfield 85, 3) := by decide +kernel
theorem dX11_init_222 : decode cX11_init 222 = .ok (.aload_n 0, 1) := by decide +kernel
theorem dX11_init_223 : decode cX11_init 223 = .ok (.sipush 7000, 3) := by decide +kernel
theorem dX11_init_226 : decode cX11_init 226 = .ok (.newarray .int, 2) := by decide +kernel
theorem dX11_init_228 : decode cX11_init 228 = .ok (.putfield 88, 3) := by decide +kernel
theorem dX11_init_231 : decode cX11_init 231 = .ok (.aload_n 0, 1) := by decide +kernel
theorem dX11_init_232 : decode cX11_init 232 = .ok (.sipush 7000, 3) := by decide +kernel
theorem dX11_init_235 : decode cX11_init 235 = .ok (.newarray .boolean, 2) := by decide +kernel
theorem dX11_init_237 : decode cX11_init 237 = .ok (.putfield 91, 3) := by decide +kernel
theorem dX11_init_240 : decode cX11_init 240 = .ok (.aload_n 0, 1) := by decide +kernel
theorem dX11_init_241 : decode cX11_init 241 = .ok (.sipush 7000, 3) := by decide +kernel
theorem dX11_init_244 : decode cX11_init 244 = .ok (.newarray .int, 2) := by decide +kernel
theorem dX11_init_246 : decode cX11_init 246 = .ok (.putfield 94, 3) := by decide +kernel
theorem dX11_init_249 : decode cX11_init 249 = .ok (.aload_n 0, 1) := by decide +kernel
theorem dX11_init_250 : decode cX11_init 250 = .ok (.sipush 7000, 3) := by decide +kernel
theorem dX11_init_253 : decode cX11_init 253 = .ok (.newarray .int, 2) := by decide +kernel
theorem dX11_init_255 : decode cX11_init 255 = .ok (.putfield 97, 3) := by decide +kernel
theorem dX11_init_258 : decode cX11_init 258 = .ok (.aload_n 0, 1) := by decide +kernel
theorem dX11_init_259 : decode cX11_init 259 = .ok (.sipush 7000, 3) := by decide +kernel
theorem dX11_init_262 : decode cX11_init 262 = .ok (.newarray .int, 2) := by decide +kernel
theorem dX11_init_264 : decode cX11_init 264 = .ok (.putfield 100, 3) := by decide +kernel
theorem dX11_init_267 : decode cX11_init 267 = .ok (.aload_n 0, 1) := by decide +kernel
theorem dX11_init_268 : decode cX11_init 268 = .ok (.sipush 7000, 3) := by decide +kernel
theorem dX11_init_271 : decode cX11_init 271 = .ok (.newarray .int, 2) := by decide +kernel
theorem dX11_init_273 : decode cX11_init 273 = .ok (.putfield 103, 3) := by decide +kernel
theorem dX11_init_276 : decode cX11_init 276 = .ok (.aload_n 0, 1) := by decide +kernel
theorem dX11_init_277 : decode cX11_init 277 = .ok (.sipush 20100, 3) := by decide +kernel
theorem dX11_init_280 : decode cX11_init 280 = .ok (.newarray .long, 2) := by decide +kernel
theorem dX11_init_282 : decode cX11_init 282 = .ok (.putfield 106, 3) := by decide +kernel
theorem dX11_init_285 : decode cX11_init 285 = .ok (.aload_n 0, 1) := by decide +kernel
theorem dX11_init_286 : decode cX11_init 286 = .ok (.ldc 109, 2) := by decide +kernel
theorem dX11_init_288 : decode cX11_init 288 = .ok (.newarray .int, 2) := by decide +kernel
theorem dX11_init_290 : decode cX11_init 290 = .ok (.putfield 110, 3) := by decide +kernel
theorem dX11_init_293 : decode cX11_init 293 = .ok (.aload_n 0, 1) := by decide +kernel
theorem dX11_init_294 : decode cX11_init 294 = .ok (.ldc 109, 2) := by decide +kernel
theorem dX11_init_296 : decode cX11_init 296 = .ok (.newarray .long, 2) := by decide +kernel
theorem dX11_init_298 : decode cX11_init 298 = .ok (.putfield 113, 3) := by decide +kernel
theorem dX11_init_301 : decode cX11_init 301 = .ok (.aload_n 0, 1) := by decide +kernel
theorem dX11_init_302 : decode cX11_init 302 = .ok (.iconst (-1), 1) := by decide +kernel
theorem dX11_init_303 : decode cX11_init 303 = .ok (.putfield 116, 3) := by decide +kernel
theorem dX11_init_306 : decode cX11_init 306 = .ok (.aload_n 0, 1) := by decide +kernel
theorem dX11_init_307 : decode cX11_init 307 = .ok (.sipush 1000, 3) := by decide +kernel
theorem dX11_init_310 : decode cX11_init 310 = .ok (.newarray .int, 2) := by decide +kernel
theorem dX11_init_312 : decode cX11_init 312 = .ok (.putfield 120, 3) := by decide +kernel
theorem dX11_init_315 : decode cX11_init 315 = .ok (.aload_n 0, 1) := by decide +kernel
theorem dX11_init_316 : decode cX11_init 316 = .ok (.sipush 20100, 3) := by decide +kernel
theorem dX11_init_319 : decode cX11_init 319 = .ok (.newarray .long, 2) := by decide +kernel
theorem dX11_init_321 : decode cX11_init 321 = .ok (.putfield 123, 3) := by decide +kernel
theorem dX11_init_324 : decode cX11_init 324 = .ok (.aload_n 0, 1) := by decide +kernel
theorem dX11_init_325 : decode cX11_init 325 = .ok (.sipush 20100, 3) := by decide +kernel
theorem dX11_init_328 : decode cX11_init 328 = .ok (.newarray .long, 2) := by decide +kernel
theorem dX11_init_330 : decode cX11_init 330 = .ok (.putfield 126, 3) := by decide +kernel
theorem dX11_init_333 : decode cX11_init 333 = .ok (.aload_n 0, 1) := by decide +kernel
theorem dX11_init_334 : decode cX11_init 334 = .ok (.sipush 7000, 3) := by decide +kernel
theorem dX11_init_337 : decode cX11_init 337 = .ok (.newarray .int, 2) := by decide +kernel
theorem dX11_init_339 : decode cX11_init 339 = .ok (.putfield 129, 3) := by decide +kernel
theorem dX11_init_342 : decode cX11_init 342 = .ok (.return_, 1) := by decide +kernel
theorem dX11_thrown_0 : decode cX11_thrown 0 = .ok (.aload_n 0, 1) := by decide +kernel
theorem dX11_thrown_1 : decode cX11_thrown 1 = .ok (.getfield 132, 3) := by decide +kernel
theorem dX11_thrown_4 : decode cX11_thrown 4 = .ok (.ireturn, 1) := by decide +kernel
theorem dX11_put_0 : decode cX11_put 0 = .ok (.aload_n 0, 1) := by decide +kernel
theorem dX11_put_1 : decode cX11_put 1 = .ok (.iconst 0, 1) := by decide +kernel
theorem dX11_put_2 : decode cX11_put 2 = .ok (.putfield 132, 3) := by decide +kernel
theorem dX11_put_5 : decode cX11_put 5 = .ok (.aload_n 0, 1) := by decide +kernel
theorem dX11_put_6 : decode cX11_put 6 = .ok (.getfield 135, 3) := by decide +kernel
theorem dX11_put_9 : decode cX11_put 9 = .ok (.bipush 10, 2) := by decide +kernel
theorem dX11_put_11 : decode cX11_put 11 = .ok (.if_icmp .ne 5, 3) := by decide +kernel
theorem dX11_put_14 : decode cX11_put 14 = .ok (.iconst 0, 1) := by decide +kernel
theorem dX11_put_15 : decode cX11_put 15 = .ok (.ireturn, 1) := by decide +kernel
theorem dX11_put_16 : decode cX11_put 16 = .ok (.aload_n 0, 1) := by decide +kernel
theorem dX11_put_17 : decode cX11_put 17 = .ok (.getfield 7, 3) := by decide +kernel
theorem dX11_put_20 : decode cX11_put 20 = .ok (.aload_n 0, 1) := by decide +kernel
theorem dX11_put_21 : decode cX11_put 21 = .ok (.getfield 135, 3) := by decide +kernel
theorem dX11_put_24 : decode cX11_put 24 = .ok (.iload_n 1, 1) := by decide +kernel
theorem dX11_put_25 : decode cX11_put 25 = .ok (.iastore, 1) := by decide +kernel
theorem dX11_put_26 : decode cX11_put 26 = .ok (.aload_n 0, 1) := by decide +kernel
theorem dX11_put_27 : decode cX11_put 27 = .ok (.dup, 1) := by decide +kernel
theorem dX11_put_28 : decode cX11_put 28 = .ok (.getfield 135, 3) := by decide +kernel
theorem dX11_put_31 : decode cX11_put 31 = .ok (.iconst 1, 1) := by decide +kernel
theorem dX11_put_32 : decode cX11_put 32 = .ok (.iadd, 1) := by decide +kernel
theorem dX11_put_33 : decode cX11_put 33 = .ok (.putfield 135, 3) := by decide +kernel
theorem dX11_put_36 : decode cX11_put 36 = .ok (.iconst 1, 1) := by decide +kernel
theorem dX11_put_37 : decode cX11_put 37 = .ok (.ireturn, 1) := by decide +kernel
theorem dX11_taken_0 : decode cX11_taken 0 = .ok (.aload_n 0, 1) := by decide +kernel
theorem dX11_taken_1 : decode cX11_taken 1 = .ok (.getfield 135, 3) := by decide +kernel
theorem dX11_taken_4 : decode cX11_taken 4 = .ok (.istore_n 1, 1) := by decide +kernel
theorem dX11_taken_5 : decode cX11_taken 5 = .ok (.aload_n 0, 1) := by decide +kernel
theorem dX11_taken_6 : decode cX11_taken 6 = .ok (.iconst 0, 1) := by decide +kernel
theorem dX11_taken_7 : decode cX11_taken 7 = .ok (.putfield 135, 3) := by decide +kernel
theorem dX11_taken_10 : decode cX11_taken 10 = .ok (.iload_n 1, 1) := by decide +kernel
theorem dX11_taken_11 : decode cX11_taken 11 = .ok (.ireturn, 1) := by decide +kernel
theorem dX11_isWithin_0 : decode cX11_isWithin 0 = .ok (.iload_n 0, 1) := by decide +kernel
theorem dX11_isWithin_1 : decode cX11_isWithin 1 = .ok (.iload_n 1, 1) := by decide +kernel
theorem dX11_isWithin_2 : decode cX11_isWithin 2 = .ok (.if_icmp .lt 12, 3) := by decide +kernel
theorem dX11_isWithin_5 : decode cX11_isWithin 5 = .ok (.iload_n 0, 1) := by decide +kernel
theorem dX11_isWithin_6 : decode cX11_isWithin 6 = .ok (.iload_n 2, 1) := by decide +kernel
theorem dX11_isWithin_7 : decode cX11_isWithin 7 = .ok (.if_icmp .gt 7, 3) := by decide +kernel
theorem dX11_isWithin_10 : decode cX11_isWithin 10 = .ok (.iconst 1, 1) := by decide +kernel
theorem dX11_isWithin_11 : decode cX11_isWithin 11 = .ok (.goto 4, 3) := by decide +kernel
theorem dX11_isWithin_14 : decode cX11_isWithin 14 = .ok (.iconst 0, 1) := by decide +kernel
theorem dX11_isWithin_15 : decode cX11_isWithin 15 = .ok (.ireturn, 1) := by decide +kernel
theorem dX11_areSlots_0 : decode cX11_areSlots 0 = .ok (.iconst 0, 1) := by decide +kernel
theorem dX11_areSlots_1 : decode cX11_areSlots 1 = .ok (.istore_n 3, 1) := by decide +kernel
theorem dX11_areSlots_2 : decode cX11_areSlots 2 = .ok (.iload_n 3, 1) := by decide +kernel
theorem dX11_areSlots_3 : decode cX11_areSlots 3 = .ok (.iload_n 1, 1) := by decide +kernel
theorem dX11_areSlots_4 : decode cX11_areSlots 4 = .ok (.if_icmp .ge 27, 3) := by decide +kernel
theorem dX11_areSlots_7 : decode cX11_areSlots 7 = .ok (.aload_n 0, 1) := by decide +kernel
theorem dX11_areSlots_8 : decode cX11_areSlots 8 = .ok (.getfield 7, 3) := by decide +kernel
theorem dX11_areSlots_11 : decode cX11_areSlots 11 = .ok (.iload_n 3, 1) := by decide +kernel
theorem dX11_areSlots_12 : decode cX11_areSlots 12 = .ok (.iaload, 1) := by decide +kernel
theorem dX11_areSlots_13 : decode cX11_areSlots 13 = .ok (.iconst 0, 1) := by decide +kernel
theorem dX11_areSlots_14 : decode cX11_areSlots 14 = .ok (.iload_n 2, 1) := by decide +kernel
theorem dX11_areSlots_15 : decode cX11_areSlots 15 = .ok (.iconst 1, 1) := by decide +kernel
theorem dX11_areSlots_16 : decode cX11_areSlots 16 = .ok (.isub, 1) := by decide +kernel
theorem dX11_areSlots_17 : decode cX11_areSlots 17 = .ok (.invokestatic 138, 3) := by decide +kernel
theorem dX11_areSlots_20 : decode cX11_areSlots 20 = .ok (.ifCond .ne 5, 3) := by decide +kernel
theorem dX11_areSlots_23 : decode cX11_areSlots 23 = .ok (.iconst 0, 1) := by decide +kernel
theorem dX11_areSlots_24 : decode cX11_areSlots 24 = .ok (.ireturn, 1) := by decide +kernel
theorem dX11_areSlots_25 : decode cX11_areSlots 25 = .ok (.iinc 3 1, 3) := by decide +kernel
theorem dX11_areSlots_28 : decode cX11_areSlots 28 = .ok (.goto (-26), 3) := by decide +kernel
theorem dX11_areSlots_31 : decode cX11_areSlots 31 = .ok (.iconst 1, 1) := by decide +kernel
theorem dX11_areSlots_32 : decode cX11_areSlots 32 = .ok (.ireturn, 1) := by decide +kernel
theorem dX11_procedure_0 : decode cX11_procedure 0 = .ok (.aload_n 0, 1) := by decide +kernel
theorem dX11_procedure_1 : decode cX11_procedure 1 = .ok (.iconst 0, 1) := by decide +kernel
theorem dX11_procedure_2 : decode cX11_procedure 2 = .ok (.putfield 132, 3) := by decide +kernel
theorem dX11_procedure_5 : decode cX11_procedure 5 = .ok (.aload_n 0, 1) := by decide +kernel
theorem dX11_procedure_6 : decode cX11_procedure 6 = .ok (.invokevirtual 142, 3) := by decide +kernel
theorem dX11_procedure_9 : decode cX11_procedure 9 = .ok (.istore 4, 2) := by decide +kernel
theorem dX11_procedure_11 : decode cX11_procedure 11 = .ok (.aload_n 0, 1) := by decide +kernel
theorem dX11_procedure_12 : decode cX11_procedure 12 = .ok (.getfield 146, 3) := by decide +kernel
theorem dX11_procedure_15 : decode cX11_procedure 15 = .ok (.bipush 60, 2) := by decide +kernel
theorem dX11_procedure_17 : decode cX11_procedure 17 = .ok (.if_icmp .ge 52, 3) := by decide +kernel
theorem dX11_procedure_20 : decode cX11_procedure 20 = .ok (.iload_n 2, 1) := by decide +kernel
theorem dX11_procedure_21 : decode cX11_procedure 21 = .ok (.iconst 1, 1) := by decide +kernel
theorem dX11_procedure_22 : decode cX11_procedure 22 = .ok (.bipush 40, 2) := by decide +kernel
theorem dX11_procedure_24 : decode cX11_procedure 24 = .ok (.invokestatic 138, 3) := by decide +kernel
theorem dX11_procedure_27 : decode cX11_procedure 27 = .ok (.ifCond .eq 42, 3) := by decide +kernel
theorem dX11_procedure_30 : decode cX11_procedure 30 = .ok (.iload_n 3, 1) := by decide +kernel
theorem dX11_procedure_31 : decode cX11_procedure 31 = .ok (.iconst 0, 1) := by decide +kernel
theorem dX11_procedure_32 : decode cX11_procedure 32 = .ok (.iload_n 2, 1) := by decide +kernel
theorem dX11_procedure_33 : decode cX11_procedure 33 = .ok (.invokestatic 138, 3) := by decide +kernel
theorem dX11_procedure_36 : decode cX11_procedure 36 = .ok (.ifCond .eq 33, 3) := by decide +kernel
theorem dX11_procedure_39 : decode cX11_procedure 39 = .ok (.iload 4, 2) := by decide +kernel
theorem dX11_procedure_41 : decode cX11_procedure 41 = .ok (.bipush 9, 2) := by decide +kernel
theorem dX11_procedure_43 : decode cX11_procedure 43 = .ok (.if_icmp .ge 26, 3) := by decide +kernel
theorem dX11_procedure_46 : decode cX11_procedure 46 = .ok (.iload 4, 2) := by decide +kernel
theorem dX11_procedure_48 : decode cX11_procedure 48 = .ok (.iload_n 3, 1) := by decide +kernel
theorem dX11_procedure_49 : decode cX11_procedure 49 = .ok (.iadd, 1) := by decide +kernel
theorem dX11_procedure_50 : decode cX11_procedure 50 = .ok (.bipush 11, 2) := by decide +kernel
theorem dX11_procedure_52 : decode cX11_procedure 52 = .ok (.if_icmp .ge 17, 3) := by decide +kernel
theorem dX11_procedure_55 : decode cX11_procedure 55 = .ok (.aload_n 0, 1) := by decide +kernel
theorem dX11_procedure_56 : decode cX11_procedure 56 = .ok (.iload 4, 2) := by decide +kernel
theorem dX11_procedure_58 : decode cX11_procedure 58 = .ok (.iload_n 2, 1) := by decide +kernel
theorem dX11_procedure_59 : decode cX11_procedure 59 = .ok (.invokevirtual 149, 3) := by decide +kernel
theorem dX11_procedure_62 : decode cX11_procedure 62 = .ok (.ifCond .eq 7, 3) := by decide +kernel
theorem dX11_procedure_65 : decode cX11_procedure 65 = .ok (.iconst 1, 1) := by decide +kernel
theorem dX11_procedure_66 : decode cX11_procedure 66 = .ok (.goto 4, 3) := by decide +kernel
theorem dX11_procedure_69 : decode cX11_procedure 69 = .ok (.iconst 0, 1) := by decide +kernel
theorem dX11_procedure_70 : decode cX11_procedure 70 = .ok (.istore 5, 2) := by decide +kernel
theorem dX11_procedure_72 : decode cX11_procedure 72 = .ok (.iload 5, 2) := by decide +kernel
theorem dX11_procedure_74 : decode cX11_procedure 74 = .ok (.ifCond .ne 5, 3) := by decide +kernel
theorem dX11_procedure_77 : decode cX11_procedure 77 = .ok (.iconst (-1), 1) := by decide +kernel
theorem dX11_procedure_78 : decode cX11_procedure 78 = .ok (.ireturn, 1) := by decide +kernel
theorem dX11_procedure_79 : decode cX11_procedure 79 = .ok (.aload_n 0, 1) := by decide +kernel
theorem dX11_procedure_80 : decode cX11_procedure 80 = .ok (.getfield 146, 3) := by decide +kernel
theorem dX11_procedure_83 : decode cX11_procedure 83 = .ok (.istore 6, 2) := by decide +kernel
theorem dX11_procedure_85 : decode cX11_procedure 85 = .ok (.aload_n 0, 1) := by decide +kernel
theorem dX11_procedure_86 : decode cX11_procedure 86 = .ok (.getfield 13, 3) := by decide +kernel
theorem dX11_procedure_89 : decode cX11_procedure 89 = .ok (.iload 6, 2) := by decide +kernel
theorem dX11_procedure_91 : decode cX11_procedure 91 = .ok (.iload_n 1, 1) := by decide +kernel
theorem dX11_procedure_92 : decode cX11_procedure 92 = .ok (.bastore, 1) := by decide +kernel
theorem dX11_procedure_93 : decode cX11_procedure 93 = .ok (.aload_n 0, 1) := by decide +kernel
theorem dX11_procedure_94 : decode cX11_procedure 94 = .ok (.getfield 17, 3) := by decide +kernel
theorem dX11_procedure_97 : decode cX11_procedure 97 = .ok (.iload 6, 2) := by decide +kernel
theorem dX11_procedure_99 : decode cX11_procedure 99 = .ok (.iload_n 2, 1) := by decide +kernel
theorem dX11_procedure_100 : decode cX11_procedure 100 = .ok (.iastore, 1) := by decide +kernel
theorem dX11_procedure_101 : decode cX11_procedure 101 = .ok (.aload_n 0, 1) := by decide +kernel
theorem dX11_procedure_102 : decode cX11_procedure 102 = .ok (.getfield 20, 3) := by decide +kernel
theorem dX11_procedure_105 : decode cX11_procedure 105 = .ok (.iload 6, 2) := by decide +kernel
theorem dX11_procedure_107 : decode cX11_procedure 107 = .ok (.iload_n 3, 1) := by decide +kernel
theorem dX11_procedure_108 : decode cX11_procedure 108 = .ok (.iastore, 1) := by decide +kernel
theorem dX11_procedure_109 : decode cX11_procedure 109 = .ok (.aload_n 0, 1) := by decide +kernel
theorem dX11_procedure_110 : decode cX11_procedure 110 = .ok (.getfield 23, 3) := by decide +kernel
theorem dX11_procedure_113 : decode cX11_procedure 113 = .ok (.iload 6, 2) := by decide +kernel
theorem dX11_procedure_115 : decode cX11_procedure 115 = .ok (.iload 4, 2) := by decide +kernel
theorem dX11_procedure_117 : decode cX11_procedure 117 = .ok (.iastore, 1) := by decide +kernel
theorem dX11_procedure_118 : decode cX11_procedure 118 = .ok (.iconst 0, 1) := by decide +kernel
theorem dX11_procedure_119 : decode cX11_procedure 119 = .ok (.istore 7, 2) := by decide +kernel
theorem dX11_procedure_121 : decode cX11_procedure 121 = .ok (.iload 7, 2) := by decide +kernel
theorem dX11_procedure_123 : decode cX11_procedure 123 = .ok (.iload 4, 2) := by decide +kernel
theorem dX11_procedure_125 : decode cX11_procedure 125 = .ok (.if_icmp .ge 29, 3) := by decide +kernel
theorem dX11_procedure_128 : decode cX11_procedure 128 = .ok (.aload_n 0, 1) := by decide +kernel
theorem dX11_procedure_129 : decode cX11_procedure 129 = .ok (.getfield 26, 3) := by decide +kernel
theorem dX11_procedure_132 : decode cX11_procedure 132 = .ok (.bipush 8, 2) := by decide +kernel
theorem dX11_procedure_134 : decode cX11_procedure 134 = .ok (.iload 6, 2) := by decide +kernel
theorem dX11_procedure_136 : decode cX11_procedure 136 = .ok (.imul, 1) := by decide +kernel
theorem dX11_procedure_137 : decode cX11_procedure 137 = .ok (.iload 7, 2) := by decide +kernel
theorem dX11_procedure_139 : decode cX11_procedure 139 = .ok (.iadd, 1) := by decide +kernel
theorem dX11_procedure_140 : decode cX11_procedure 140 = .ok (.aload_n 0, 1) := by decide +kernel
theorem dX11_procedure_141 : decode cX11_procedure 141 = .ok (.getfield 7, 3) := by decide +kernel
theorem dX11_procedure_144 : decode cX11_procedure 144 = .ok (.iload 7, 2) := by decide +kernel
theorem dX11_procedure_146 : decode cX11_procedure 146 = .ok (.iaload, 1) := by decide +kernel
theorem dX11_procedure_147 : decode cX11_procedure 147 = .ok (.iastore, 1) := by decide +kernel
theorem dX11_procedure_148 : decode cX11_procedure 148 = .ok (.iinc 7 1, 3) := by decide +kernel
theorem dX11_procedure_151 : decode cX11_procedure 151 = .ok (.goto (-30), 3) := by decide +kernel
theorem dX11_procedure_154 : decode cX11_procedure 154 = .ok (.aload_n 0, 1) := by decide +kernel
theorem dX11_procedure_155 : decode cX11_procedure 155 = .ok (.getfield 29, 3) := by decide +kernel
theorem dX11_procedure_158 : decode cX11_procedure 158 = .ok (.iload 6, 2) := by decide +kernel
theorem dX11_procedure_160 : decode cX11_procedure 160 = .ok (.iconst 0, 1) := by decide +kernel
theorem dX11_procedure_161 : decode cX11_procedure 161 = .ok (.iastore, 1) := by decide +kernel
theorem dX11_procedure_162 : decode cX11_procedure 162 = .ok (.aload_n 0, 1) := by decide +kernel
theorem dX11_procedure_163 : decode cX11_procedure 163 = .ok (.dup, 1) := by decide +kernel
theorem dX11_procedure_164 : decode cX11_procedure 164 = .ok (.getfield 146, 3) := by decide +kernel
theorem dX11_procedure_167 : decode cX11_procedure 167 = .ok (.iconst 1, 1) := by decide +kernel
theorem dX11_procedure_168 : decode cX11_procedure 168 = .ok (.iadd, 1) := by decide +kernel
theorem dX11_procedure_169 : decode cX11_procedure 169 = .ok (.putfield 146, 3) := by decide +kernel
theorem dX11_procedure_172 : decode cX11_procedure 172 = .ok (.iload 6, 2) := by decide +kernel
theorem dX11_procedure_174 : decode cX11_procedure 174 = .ok (.ireturn, 1) := by decide +kernel
theorem dX11_isSlot_0 : decode cX11_isSlot 0 = .ok (.iload_n 2, 1) := by decide +kernel
theorem dX11_isSlot_1 : decode cX11_isSlot 1 = .ok (.iconst 0, 1) := by decide +kernel
theorem dX11_isSlot_2 : decode cX11_isSlot 2 = .ok (.aload_n 0, 1) := by decide +kernel
theorem dX11_isSlot_3 : decode cX11_isSlot 3 = .ok (.getfield 17, 3) := by decide +kernel
theorem dX11_isSlot_6 : decode cX11_isSlot 6 = .ok (.iload_n 1, 1) := by decide +kernel
theorem dX11_isSlot_7 : decode cX11_isSlot 7 = .ok (.iaload, 1) := by decide +kernel
theorem dX11_isSlot_8 : decode cX11_isSlot 8 = .ok (.iconst 1, 1) := by decide +kernel
theorem dX11_isSlot_9 : decode cX11_isSlot 9 = .ok (.isub, 1) := by decide +kernel
theorem dX11_isSlot_10 : decode cX11_isSlot 10 = .ok (.invokestatic 138, 3) := by decide +kernel
theorem dX11_isSlot_13 : decode cX11_isSlot 13 = .ok (.ireturn, 1) := by decide +kernel
theorem dX11_isTo_0 : decode cX11_isTo 0 = .ok (.iload_n 0, 1) := by decide +kernel
theorem dX11_isTo_1 : decode cX11_isTo 1 = .ok (.iconst 0, 1) := by decide +kernel
theorem dX11_isTo_2 : decode cX11_isTo 2 = .ok (.sipush 1999, 3) := by decide +kernel
theorem dX11_isTo_5 : decode cX11_isTo 5 = .ok (.invokestatic 138, 3) := by decide +kernel
theorem dX11_isTo_8 : decode cX11_isTo 8 = .ok (.ireturn, 1) := by decide +kernel
theorem dX11_isRight_0 : decode cX11_isRight 0 = .ok (.iload_n 2, 1) := by decide +kernel
theorem dX11_isRight_1 : decode cX11_isRight 1 = .ok (.tableswitch 322 0 13 #[71, 78, 103, 103, 78, 150, 195, 230, 235, 230, 269, 71, 71, 71], 71) := by decide +kernel
theorem dX11_isRight_72 : decode cX11_isRight 72 = .ok (.aload_n 0, 1) := by decide +kernel
theorem dX11_isRight_73 : decode cX11_isRight 73 = .ok (.iload_n 1, 1) := by decide +kernel
theorem dX11_isRight_74 : decode cX11_isRight 74 = .ok (.iload_n 3, 1) := by decide +kernel
theorem dX11_isRight_75 : decode cX11_isRight 75 = .ok (.invokevirtual 153, 3) := by decide +kernel
theorem dX11_isRight_78 : decode cX11_isRight 78 = .ok (.ireturn, 1) := by decide +kernel
theorem dX11_isRight_79 : decode cX11_isRight 79 = .ok (.aload_n 0, 1) := by decide +kernel
theorem dX11_isRight_80 : decode cX11_isRight 80 = .ok (.iload_n 1, 1) := by decide +kernel
theorem dX11_isRight_81 : decode cX11_isRight 81 = .ok (.iload_n 3, 1) := by decide +kernel
theorem dX11_isRight_82 : decode cX11_isRight 82 = .ok (.invokevirtual 153, 3) := by decide +kernel
theorem dX11_isRight_85 : decode cX11_isRight 85 = .ok (.ifCond .eq 17, 3) := by decide +kernel
theorem dX11_isRight_88 : decode cX11_isRight 88 = .ok (.aload_n 0, 1) := by decide +kernel
theorem dX11_isRight_89 : decode cX11_isRight 89 = .ok (.iload_n 1, 1) := by decide +kernel
theorem dX11_isRight_90 : decode cX11_isRight 90 = .ok (.iload 4, 2) := by decide +kernel
theorem dX11_isRight_92 : decode cX11_isRight 92 = .ok (.invokevirtual 153, 3) := by decide +kernel
theorem dX11_isRight_95 : decode cX11_isRight 95 = .ok (.ifCond .eq 7, 3) := by decide +kernel
theorem dX11_isRight_98 : decode cX11_isRight 98 = .ok (.iconst 1, 1) := by decide +kernel
theorem dX11_isRight_99 : decode cX11_isRight 99 = .ok (.goto 4, 3) := by decide +kernel
theorem dX11_isRight_102 : decode cX11_isRight 102 = .ok (.iconst 0, 1) := by decide +kernel
theorem dX11_isRight_103 : decode cX11_isRight 103 = .ok (.ireturn, 1) := by decide +kernel
theorem dX11_isRight_104 : decode cX11_isRight 104 = .ok (.aload_n 0, 1) := by decide +kernel
theorem dX11_isRight_105 : decode cX11_isRight 105 = .ok (.iload_n 1, 1) := by decide +kernel
theorem dX11_isRight_106 : decode cX11_isRight 106 = .ok (.iload_n 3, 1) := by decide +kernel
theorem dX11_isRight_107 : decode cX11_isRight 107 = .ok (.invokevirtual 153, 3) := by decide +kernel
theorem dX11_isRight_110 : decode cX11_isRight 110 = .ok (.ifCond .eq 39, 3) := by decide +kernel
theorem dX11_isRight_113 : decode cX11_isRight 113 = .ok (.iload 4, 2) := by decide +kernel
theorem dX11_isRight_115 : decode cX11_isRight 115 = .ok (.iconst 0, 1) := by decide +kernel
theorem dX11_isRight_116 : decode cX11_isRight 116 = .ok (.bipush 31, 2) := by decide +kernel
theorem dX11_isRight_118 : decode cX11_isRight 118 = .ok (.invokestatic 138, 3) := by decide +kernel
theorem dX11_isRight_121 : decode cX11_isRight 121 = .ok (.ifCond .eq 28, 3) := by decide +kernel
theorem dX11_isRight_124 : decode cX11_isRight 124 = .ok (.iload 7, 2) := by decide +kernel
end
section
theorem dX11_isRight_126 : decode cX11_isRight 126 = .ok (.iconst 5, 1) := by decide +kernel
theorem dX11_isRight_127 : decode cX11_isRight 127 = .ok (.if_icmp .ge 22, 3) := by decide +kernel
theorem dX11_isRight_130 : decode cX11_isRight 130 = .ok (.aload_n 0, 1) := by decide +kernel
theorem dX11_isRight_131 : decode cX11_isRight 131 = .ok (.iload 7, 2) := by decide +kernel
theorem dX11_isRight_133 : decode cX11_isRight 133 = .ok (.aload_n 0, 1) := by decide +kernel
theorem dX11_isRight_134 : decode cX11_isRight 134 = .ok (.getfield 17, 3) := by decide +kernel
theorem dX11_isRight_137 : decode cX11_isRight 137 = .ok (.iload_n 1, 1) := by decide +kernel
theorem dX11_isRight_138 : decode cX11_isRight 138 = .ok (.iaload, 1) := by decide +kernel
theorem dX11_isRight_139 : decode cX11_isRight 139 = .ok (.invokevirtual 149, 3) := by decide +kernel
theorem dX11_isRight_142 : decode cX11_isRight 142 = .ok (.ifCond .eq 7, 3) := by decide +kernel
theorem dX11_isRight_145 : decode cX11_isRight 145 = .ok (.iconst 1, 1) := by decide +kernel
theorem dX11_isRight_146 : decode cX11_isRight 146 = .ok (.goto 4, 3) := by decide +kernel
theorem dX11_isRight_149 : decode cX11_isRight 149 = .ok (.iconst 0, 1) := by decide +kernel
theorem dX11_isRight_150 : decode cX11_isRight 150 = .ok (.ireturn, 1) := by decide +kernel
theorem dX11_isRight_151 : decode cX11_isRight 151 = .ok (.aload_n 0, 1) := by decide +kernel
theorem dX11_isRight_152 : decode cX11_isRight 152 = .ok (.iload_n 1, 1) := by decide +kernel
theorem dX11_isRight_153 : decode cX11_isRight 153 = .ok (.iload_n 3, 1) := by decide +kernel
theorem dX11_isRight_154 : decode cX11_isRight 154 = .ok (.invokevirtual 153, 3) := by decide +kernel
theorem dX11_isRight_157 : decode cX11_isRight 157 = .ok (.ifCond .eq 37, 3) := by decide +kernel
theorem dX11_isRight_160 : decode cX11_isRight 160 = .ok (.aload_n 0, 1) := by decide +kernel
theorem dX11_isRight_161 : decode cX11_isRight 161 = .ok (.iload_n 1, 1) := by decide +kernel
theorem dX11_isRight_162 : decode cX11_isRight 162 = .ok (.iload 4, 2) := by decide +kernel
theorem dX11_isRight_164 : decode cX11_isRight 164 = .ok (.invokevirtual 153, 3) := by decide +kernel
theorem dX11_isRight_167 : decode cX11_isRight 167 = .ok (.ifCond .eq 27, 3) := by decide +kernel
theorem dX11_isRight_170 : decode cX11_isRight 170 = .ok (.aload_n 0, 1) := by decide +kernel
theorem dX11_isRight_171 : decode cX11_isRight 171 = .ok (.iload_n 1, 1) := by decide +kernel
theorem dX11_isRight_172 : decode cX11_isRight 172 = .ok (.iload 5, 2) := by decide +kernel
theorem dX11_isRight_174 : decode cX11_isRight 174 = .ok (.invokevirtual 153, 3) := by decide +kernel
theorem dX11_isRight_177 : decode cX11_isRight 177 = .ok (.ifCond .eq 17, 3) := by decide +kernel
theorem dX11_isRight_180 : decode cX11_isRight 180 = .ok (.iload 6, 2) := by decide +kernel
theorem dX11_isRight_182 : decode cX11_isRight 182 = .ok (.iconst 0, 1) := by decide +kernel
theorem dX11_isRight_183 : decode cX11_isRight 183 = .ok (.iconst 4, 1) := by decide +kernel
theorem dX11_isRight_184 : decode cX11_isRight 184 = .ok (.invokestatic 138, 3) := by decide +kernel
theorem dX11_isRight_187 : decode cX11_isRight 187 = .ok (.ifCond .eq 7, 3) := by decide +kernel
theorem dX11_isRight_190 : decode cX11_isRight 190 = .ok (.iconst 1, 1) := by decide +kernel
theorem dX11_isRight_191 : decode cX11_isRight 191 = .ok (.goto 4, 3) := by decide +kernel
theorem dX11_isRight_194 : decode cX11_isRight 194 = .ok (.iconst 0, 1) := by decide +kernel
theorem dX11_isRight_195 : decode cX11_isRight 195 = .ok (.ireturn, 1) := by decide +kernel
theorem dX11_isRight_196 : decode cX11_isRight 196 = .ok (.aload_n 0, 1) := by decide +kernel
theorem dX11_isRight_197 : decode cX11_isRight 197 = .ok (.iload_n 1, 1) := by decide +kernel
theorem dX11_isRight_198 : decode cX11_isRight 198 = .ok (.iload_n 3, 1) := by decide +kernel
theorem dX11_isRight_199 : decode cX11_isRight 199 = .ok (.invokevirtual 153, 3) := by decide +kernel
theorem dX11_isRight_202 : decode cX11_isRight 202 = .ok (.ifCond .eq 27, 3) := by decide +kernel
theorem dX11_isRight_205 : decode cX11_isRight 205 = .ok (.aload_n 0, 1) := by decide +kernel
theorem dX11_isRight_206 : decode cX11_isRight 206 = .ok (.iload_n 1, 1) := by decide +kernel
theorem dX11_isRight_207 : decode cX11_isRight 207 = .ok (.iload 4, 2) := by decide +kernel
theorem dX11_isRight_209 : decode cX11_isRight 209 = .ok (.invokevirtual 153, 3) := by decide +kernel
theorem dX11_isRight_212 : decode cX11_isRight 212 = .ok (.ifCond .eq 17, 3) := by decide +kernel
theorem dX11_isRight_215 : decode cX11_isRight 215 = .ok (.iload 5, 2) := by decide +kernel
theorem dX11_isRight_217 : decode cX11_isRight 217 = .ok (.iconst 0, 1) := by decide +kernel
theorem dX11_isRight_218 : decode cX11_isRight 218 = .ok (.iconst 5, 1) := by decide +kernel
theorem dX11_isRight_219 : decode cX11_isRight 219 = .ok (.invokestatic 138, 3) := by decide +kernel
theorem dX11_isRight_222 : decode cX11_isRight 222 = .ok (.ifCond .eq 7, 3) := by decide +kernel
theorem dX11_isRight_225 : decode cX11_isRight 225 = .ok (.iconst 1, 1) := by decide +kernel
theorem dX11_isRight_226 : decode cX11_isRight 226 = .ok (.goto 4, 3) := by decide +kernel
theorem dX11_isRight_229 : decode cX11_isRight 229 = .ok (.iconst 0, 1) := by decide +kernel
theorem dX11_isRight_230 : decode cX11_isRight 230 = .ok (.ireturn, 1) := by decide +kernel
theorem dX11_isRight_231 : decode cX11_isRight 231 = .ok (.iload_n 3, 1) := by decide +kernel
theorem dX11_isRight_232 : decode cX11_isRight 232 = .ok (.invokestatic 156, 3) := by decide +kernel
theorem dX11_isRight_235 : decode cX11_isRight 235 = .ok (.ireturn, 1) := by decide +kernel
theorem dX11_isRight_236 : decode cX11_isRight 236 = .ok (.aload_n 0, 1) := by decide +kernel
theorem dX11_isRight_237 : decode cX11_isRight 237 = .ok (.iload_n 1, 1) := by decide +kernel
theorem dX11_isRight_238 : decode cX11_isRight 238 = .ok (.iload_n 3, 1) := by decide +kernel
theorem dX11_isRight_239 : decode cX11_isRight 239 = .ok (.invokevirtual 153, 3) := by decide +kernel
theorem dX11_isRight_242 : decode cX11_isRight 242 = .ok (.ifCond .eq 26, 3) := by decide +kernel
theorem dX11_isRight_245 : decode cX11_isRight 245 = .ok (.iload 4, 2) := by decide +kernel
theorem dX11_isRight_247 : decode cX11_isRight 247 = .ok (.iconst 0, 1) := by decide +kernel
theorem dX11_isRight_248 : decode cX11_isRight 248 = .ok (.bipush 31, 2) := by decide +kernel
theorem dX11_isRight_250 : decode cX11_isRight 250 = .ok (.invokestatic 138, 3) := by decide +kernel
theorem dX11_isRight_253 : decode cX11_isRight 253 = .ok (.ifCond .eq 15, 3) := by decide +kernel
theorem dX11_isRight_256 : decode cX11_isRight 256 = .ok (.iload 5, 2) := by decide +kernel
theorem dX11_isRight_258 : decode cX11_isRight 258 = .ok (.invokestatic 156, 3) := by decide +kernel
theorem dX11_isRight_261 : decode cX11_isRight 261 = .ok (.ifCond .eq 7, 3) := by decide +kernel
theorem dX11_isRight_264 : decode cX11_isRight 264 = .ok (.iconst 1, 1) := by decide +kernel
theorem dX11_isRight_265 : decode cX11_isRight 265 = .ok (.goto 4, 3) := by decide +kernel
theorem dX11_isRight_268 : decode cX11_isRight 268 = .ok (.iconst 0, 1) := by decide +kernel
theorem dX11_isRight_269 : decode cX11_isRight 269 = .ok (.ireturn, 1) := by decide +kernel
theorem dX11_isRight_270 : decode cX11_isRight 270 = .ok (.iload_n 3, 1) := by decide +kernel
theorem dX11_isRight_271 : decode cX11_isRight 271 = .ok (.iconst 0, 1) := by decide +kernel
theorem dX11_isRight_272 : decode cX11_isRight 272 = .ok (.aload_n 0, 1) := by decide +kernel
theorem dX11_isRight_273 : decode cX11_isRight 273 = .ok (.getfield 146, 3) := by decide +kernel
theorem dX11_isRight_276 : decode cX11_isRight 276 = .ok (.iconst 1, 1) := by decide +kernel
theorem dX11_isRight_277 : decode cX11_isRight 277 = .ok (.isub, 1) := by decide +kernel
theorem dX11_isRight_278 : decode cX11_isRight 278 = .ok (.invokestatic 138, 3) := by decide +kernel
theorem dX11_isRight_281 : decode cX11_isRight 281 = .ok (.ifCond .eq 40, 3) := by decide +kernel
theorem dX11_isRight_284 : decode cX11_isRight 284 = .ok (.iload 7, 2) := by decide +kernel
theorem dX11_isRight_286 : decode cX11_isRight 286 = .ok (.aload_n 0, 1) := by decide +kernel
theorem dX11_isRight_287 : decode cX11_isRight 287 = .ok (.getfield 20, 3) := by decide +kernel
theorem dX11_isRight_290 : decode cX11_isRight 290 = .ok (.iload_n 3, 1) := by decide +kernel
theorem dX11_isRight_291 : decode cX11_isRight 291 = .ok (.iaload, 1) := by decide +kernel
theorem dX11_isRight_292 : decode cX11_isRight 292 = .ok (.aload_n 0, 1) := by decide +kernel
theorem dX11_isRight_293 : decode cX11_isRight 293 = .ok (.getfield 23, 3) := by decide +kernel
theorem dX11_isRight_296 : decode cX11_isRight 296 = .ok (.iload_n 3, 1) := by decide +kernel
theorem dX11_isRight_297 : decode cX11_isRight 297 = .ok (.iaload, 1) := by decide +kernel
theorem dX11_isRight_298 : decode cX11_isRight 298 = .ok (.iadd, 1) := by decide +kernel
theorem dX11_isRight_299 : decode cX11_isRight 299 = .ok (.if_icmp .ne 22, 3) := by decide +kernel
theorem dX11_isRight_302 : decode cX11_isRight 302 = .ok (.aload_n 0, 1) := by decide +kernel
theorem dX11_isRight_303 : decode cX11_isRight 303 = .ok (.iload 7, 2) := by decide +kernel
theorem dX11_isRight_305 : decode cX11_isRight 305 = .ok (.aload_n 0, 1) := by decide +kernel
theorem dX11_isRight_306 : decode cX11_isRight 306 = .ok (.getfield 17, 3) := by decide +kernel
theorem dX11_isRight_309 : decode cX11_isRight 309 = .ok (.iload_n 1, 1) := by decide +kernel
theorem dX11_isRight_310 : decode cX11_isRight 310 = .ok (.iaload, 1) := by decide +kernel
theorem dX11_isRight_311 : decode cX11_isRight 311 = .ok (.invokevirtual 149, 3) := by decide +kernel
theorem dX11_isRight_314 : decode cX11_isRight 314 = .ok (.ifCond .eq 7, 3) := by decide +kernel
theorem dX11_isRight_317 : decode cX11_isRight 317 = .ok (.iconst 1, 1) := by decide +kernel
theorem dX11_isRight_318 : decode cX11_isRight 318 = .ok (.goto 4, 3) := by decide +kernel
theorem dX11_isRight_321 : decode cX11_isRight 321 = .ok (.iconst 0, 1) := by decide +kernel
theorem dX11_isRight_322 : decode cX11_isRight 322 = .ok (.ireturn, 1) := by decide +kernel
theorem dX11_isRight_323 : decode cX11_isRight 323 = .ok (.iload_n 2, 1) := by decide +kernel
theorem dX11_isRight_324 : decode cX11_isRight 324 = .ok (.bipush 14, 2) := by decide +kernel
theorem dX11_isRight_326 : decode cX11_isRight 326 = .ok (.if_icmp .eq 9, 3) := by decide +kernel
theorem dX11_isRight_329 : decode cX11_isRight 329 = .ok (.iload_n 2, 1) := by decide +kernel
theorem dX11_isRight_330 : decode cX11_isRight 330 = .ok (.bipush 15, 2) := by decide +kernel
theorem dX11_isRight_332 : decode cX11_isRight 332 = .ok (.if_icmp .ne 7, 3) := by decide +kernel
theorem dX11_isRight_335 : decode cX11_isRight 335 = .ok (.iconst 1, 1) := by decide +kernel
theorem dX11_isRight_336 : decode cX11_isRight 336 = .ok (.goto 4, 3) := by decide +kernel
theorem dX11_isRight_339 : decode cX11_isRight 339 = .ok (.iconst 0, 1) := by decide +kernel
theorem dX11_isRight_340 : decode cX11_isRight 340 = .ok (.ireturn, 1) := by decide +kernel
theorem dX11_add_0 : decode cX11_add 0 = .ok (.aload_n 0, 1) := by decide +kernel
theorem dX11_add_1 : decode cX11_add 1 = .ok (.iconst 0, 1) := by decide +kernel
theorem dX11_add_2 : decode cX11_add 2 = .ok (.putfield 132, 3) := by decide +kernel
theorem dX11_add_5 : decode cX11_add 5 = .ok (.aload_n 0, 1) := by decide +kernel
theorem dX11_add_6 : decode cX11_add 6 = .ok (.invokevirtual 142, 3) := by decide +kernel
theorem dX11_add_9 : decode cX11_add 9 = .ok (.istore 7, 2) := by decide +kernel
theorem dX11_add_11 : decode cX11_add 11 = .ok (.aload_n 0, 1) := by decide +kernel
theorem dX11_add_12 : decode cX11_add 12 = .ok (.getfield 160, 3) := by decide +kernel
theorem dX11_add_15 : decode cX11_add 15 = .ok (.sipush 2000, 3) := by decide +kernel
theorem dX11_add_18 : decode cX11_add 18 = .ok (.if_icmp .eq 35, 3) := by decide +kernel
theorem dX11_add_21 : decode cX11_add 21 = .ok (.iload_n 1, 1) := by decide +kernel
theorem dX11_add_22 : decode cX11_add 22 = .ok (.iconst 0, 1) := by decide +kernel
theorem dX11_add_23 : decode cX11_add 23 = .ok (.aload_n 0, 1) := by decide +kernel
theorem dX11_add_24 : decode cX11_add 24 = .ok (.getfield 146, 3) := by decide +kernel
theorem dX11_add_27 : decode cX11_add 27 = .ok (.iconst 1, 1) := by decide +kernel
theorem dX11_add_28 : decode cX11_add 28 = .ok (.isub, 1) := by decide +kernel
theorem dX11_add_29 : decode cX11_add 29 = .ok (.invokestatic 138, 3) := by decide +kernel
theorem dX11_add_32 : decode cX11_add 32 = .ok (.ifCond .eq 21, 3) := by decide +kernel
theorem dX11_add_35 : decode cX11_add 35 = .ok (.aload_n 0, 1) := by decide +kernel
theorem dX11_add_36 : decode cX11_add 36 = .ok (.iload_n 1, 1) := by decide +kernel
theorem dX11_add_37 : decode cX11_add 37 = .ok (.iload_n 2, 1) := by decide +kernel
theorem dX11_add_38 : decode cX11_add 38 = .ok (.iload_n 3, 1) := by decide +kernel
theorem dX11_add_39 : decode cX11_add 39 = .ok (.iload 4, 2) := by decide +kernel
theorem dX11_add_41 : decode cX11_add 41 = .ok (.iload 5, 2) := by decide +kernel
theorem dX11_add_43 : decode cX11_add 43 = .ok (.iload 6, 2) := by decide +kernel
theorem dX11_add_45 : decode cX11_add 45 = .ok (.iload 7, 2) := by decide +kernel
theorem dX11_add_47 : decode cX11_add 47 = .ok (.invokevirtual 163, 3) := by decide +kernel
theorem dX11_add_50 : decode cX11_add 50 = .ok (.ifCond .ne 5, 3) := by decide +kernel
theorem dX11_add_53 : decode cX11_add 53 = .ok (.iconst (-1), 1) := by decide +kernel
theorem dX11_add_54 : decode cX11_add 54 = .ok (.ireturn, 1) := by decide +kernel
theorem dX11_add_55 : decode cX11_add 55 = .ok (.aload_n 0, 1) := by decide +kernel
theorem dX11_add_56 : decode cX11_add 56 = .ok (.getfield 160, 3) := by decide +kernel
theorem dX11_add_59 : decode cX11_add 59 = .ok (.istore 8, 2) := by decide +kernel
theorem dX11_add_61 : decode cX11_add 61 = .ok (.aload_n 0, 1) := by decide +kernel
theorem dX11_add_62 : decode cX11_add 62 = .ok (.getfield 36, 3) := by decide +kernel
theorem dX11_add_65 : decode cX11_add 65 = .ok (.iload 8, 2) := by decide +kernel
theorem dX11_add_67 : decode cX11_add 67 = .ok (.iload_n 2, 1) := by decide +kernel
theorem dX11_add_68 : decode cX11_add 68 = .ok (.iastore, 1) := by decide +kernel
theorem dX11_add_69 : decode cX11_add 69 = .ok (.aload_n 0, 1) := by decide +kernel
theorem dX11_add_70 : decode cX11_add 70 = .ok (.getfield 39, 3) := by decide +kernel
theorem dX11_add_73 : decode cX11_add 73 = .ok (.iload 8, 2) := by decide +kernel
theorem dX11_add_75 : decode cX11_add 75 = .ok (.iload_n 3, 1) := by decide +kernel
theorem dX11_add_76 : decode cX11_add 76 = .ok (.iastore, 1) := by decide +kernel
theorem dX11_add_77 : decode cX11_add 77 = .ok (.aload_n 0, 1) := by decide +kernel
theorem dX11_add_78 : decode cX11_add 78 = .ok (.getfield 42, 3) := by decide +kernel
theorem dX11_add_81 : decode cX11_add 81 = .ok (.iload 8, 2) := by decide +kernel
theorem dX11_add_83 : decode cX11_add 83 = .ok (.iload 4, 2) := by decide +kernel
theorem dX11_add_85 : decode cX11_add 85 = .ok (.iastore, 1) := by decide +kernel
theorem dX11_add_86 : decode cX11_add 86 = .ok (.aload_n 0, 1) := by decide +kernel
theorem dX11_add_87 : decode cX11_add 87 = .ok (.getfield 45, 3) := by decide +kernel
theorem dX11_add_90 : decode cX11_add 90 = .ok (.iload 8, 2) := by decide +kernel
theorem dX11_add_92 : decode cX11_add 92 = .ok (.iload 5, 2) := by decide +kernel
theorem dX11_add_94 : decode cX11_add 94 = .ok (.iastore, 1) := by decide +kernel
theorem dX11_add_95 : decode cX11_add 95 = .ok (.aload_n 0, 1) := by decide +kernel
theorem dX11_add_96 : decode cX11_add 96 = .ok (.getfield 48, 3) := by decide +kernel
theorem dX11_add_99 : decode cX11_add 99 = .ok (.iload 8, 2) := by decide +kernel
theorem dX11_add_101 : decode cX11_add 101 = .ok (.iload 6, 2) := by decide +kernel
theorem dX11_add_103 : decode cX11_add 103 = .ok (.iastore, 1) := by decide +kernel
theorem dX11_add_104 : decode cX11_add 104 = .ok (.aload_n 0, 1) := by decide +kernel
theorem dX11_add_105 : decode cX11_add 105 = .ok (.getfield 51, 3) := by decide +kernel
theorem dX11_add_108 : decode cX11_add 108 = .ok (.iload 8, 2) := by decide +kernel
theorem dX11_add_110 : decode cX11_add 110 = .ok (.iload 7, 2) := by decide +kernel
theorem dX11_add_112 : decode cX11_add 112 = .ok (.iastore, 1) := by decide +kernel
theorem dX11_add_113 : decode cX11_add 113 = .ok (.iconst 0, 1) := by decide +kernel
theorem dX11_add_114 : decode cX11_add 114 = .ok (.istore 9, 2) := by decide +kernel
theorem dX11_add_116 : decode cX11_add 116 = .ok (.iload 9, 2) := by decide +kernel
theorem dX11_add_118 : decode cX11_add 118 = .ok (.iload 7, 2) := by decide +kernel
theorem dX11_add_120 : decode cX11_add 120 = .ok (.if_icmp .ge 29, 3) := by decide +kernel
theorem dX11_add_123 : decode cX11_add 123 = .ok (.aload_n 0, 1) := by decide +kernel
theorem dX11_add_124 : decode cX11_add 124 = .ok (.getfield 54, 3) := by decide +kernel
theorem dX11_add_127 : decode cX11_add 127 = .ok (.bipush 10, 2) := by decide +kernel
theorem dX11_add_129 : decode cX11_add 129 = .ok (.iload 8, 2) := by decide +kernel
theorem dX11_add_131 : decode cX11_add 131 = .ok (.imul, 1) := by decide +kernel
theorem dX11_add_132 : decode cX11_add 132 = .ok (.iload 9, 2) := by decide +kernel
theorem dX11_add_134 : decode cX11_add 134 = .ok (.iadd, 1) := by decide +kernel
theorem dX11_add_135 : decode cX11_add 135 = .ok (.aload_n 0, 1) := by decide +kernel
theorem dX11_add_136 : decode cX11_add 136 = .ok (.getfield 7, 3) := by decide +kernel
theorem dX11_add_139 : decode cX11_add 139 = .ok (.iload 9, 2) := by decide +kernel
theorem dX11_add_141 : decode cX11_add 141 = .ok (.iaload, 1) := by decide +kernel
theorem dX11_add_142 : decode cX11_add 142 = .ok (.iastore, 1) := by decide +kernel
theorem dX11_add_143 : decode cX11_add 143 = .ok (.iinc 9 1, 3) := by decide +kernel
theorem dX11_add_146 : decode cX11_add 146 = .ok (.goto (-30), 3) := by decide +kernel
theorem dX11_add_149 : decode cX11_add 149 = .ok (.aload_n 0, 1) := by decide +kernel
theorem dX11_add_150 : decode cX11_add 150 = .ok (.dup, 1) := by decide +kernel
theorem dX11_add_151 : decode cX11_add 151 = .ok (.getfield 160, 3) := by decide +kernel
theorem dX11_add_154 : decode cX11_add 154 = .ok (.iconst 1, 1) := by decide +kernel
theorem dX11_add_155 : decode cX11_add 155 = .ok (.iadd, 1) := by decide +kernel
theorem dX11_add_156 : decode cX11_add 156 = .ok (.putfield 160, 3) := by decide +kernel
theorem dX11_add_159 : decode cX11_add 159 = .ok (.aload_n 0, 1) := by decide +kernel
theorem dX11_add_160 : decode cX11_add 160 = .ok (.getfield 33, 3) := by decide +kernel
theorem dX11_add_163 : decode cX11_add 163 = .ok (.sipush 2000, 3) := by decide +kernel
theorem dX11_add_166 : decode cX11_add 166 = .ok (.iload_n 1, 1) := by decide +kernel
theorem dX11_add_167 : decode cX11_add 167 = .ok (.imul, 1) := by decide +kernel
theorem dX11_add_168 : decode cX11_add 168 = .ok (.aload_n 0, 1) := by decide +kernel
theorem dX11_add_169 : decode cX11_add 169 = .ok (.getfield 29, 3) := by decide +kernel
theorem dX11_add_172 : decode cX11_add 172 = .ok (.iload_n 1, 1) := by decide +kernel
theorem dX11_add_173 : decode cX11_add 173 = .ok (.iaload, 1) := by decide +kernel
theorem dX11_add_174 : decode cX11_add 174 = .ok (.iadd, 1) := by decide +kernel
theorem dX11_add_175 : decode cX11_add 175 = .ok (.iload 8, 2) := by decide +kernel
theorem dX11_add_177 : decode cX11_add 177 = .ok (.iastore, 1) := by decide +kernel
theorem dX11_add_178 : decode cX11_add 178 = .ok (.aload_n 0, 1) := by decide +kernel
theorem dX11_add_179 : decode cX11_add 179 = .ok (.getfield 29, 3) := by decide +kernel
theorem dX11_add_182 : decode cX11_add 182 = .ok (.iload_n 1, 1) := by decide +kernel
theorem dX11_add_183 : decode cX11_add 183 = .ok (.dup2, 1) := by decide +kernel
theorem dX11_add_184 : decode cX11_add 184 = .ok (.iaload, 1) := by decide +kernel
theorem dX11_add_185 : decode cX11_add 185 = .ok (.iconst 1, 1) := by decide +kernel
theorem dX11_add_186 : decode cX11_add 186 = .ok (.iadd, 1) := by decide +kernel
theorem dX11_add_187 : decode cX11_add 187 = .ok (.iastore, 1) := by decide +kernel
theorem dX11_add_188 : decode cX11_add 188 = .ok (.aload_n 0, 1) := by decide +kernel
theorem dX11_add_189 : decode cX11_add 189 = .ok (.getfield 29, 3) := by decide +kernel
theorem dX11_add_192 : decode cX11_add 192 = .ok (.iload_n 1, 1) := by decide +kernel
theorem dX11_add_193 : decode cX11_add 193 = .ok (.iaload, 1) := by decide +kernel
theorem dX11_add_194 : decode cX11_add 194 = .ok (.iconst 1, 1) := by decide +kernel
theorem dX11_add_195 : decode cX11_add 195 = .ok (.isub, 1) := by decide +kernel
theorem dX11_add_196 : decode cX11_add 196 = .ok (.ireturn, 1) := by decide +kernel
theorem dX11_sizeOf_0 : decode cX11_sizeOf 0 = .ok (.aload_n 0, 1) := by decide +kernel
theorem dX11_sizeOf_1 : decode cX11_sizeOf 1 = .ok (.getfield 70, 3) := by decide +kernel
theorem dX11_sizeOf_4 : decode cX11_sizeOf 4 = .ok (.iload_n 1, 1) := by decide +kernel
theorem dX11_sizeOf_5 : decode cX11_sizeOf 5 = .ok (.baload, 1) := by decide +kernel
theorem dX11_sizeOf_6 : decode cX11_sizeOf 6 = .ok (.ifCond .eq 19, 3) := by decide +kernel
theorem dX11_sizeOf_9 : decode cX11_sizeOf 9 = .ok (.iconst 2, 1) := by decide +kernel
theorem dX11_sizeOf_10 : decode cX11_sizeOf 10 = .ok (.aload_n 0, 1) := by decide +kernel
theorem dX11_sizeOf_11 : decode cX11_sizeOf 11 = .ok (.getfield 17, 3) := by decide +kernel
theorem dX11_sizeOf_14 : decode cX11_sizeOf 14 = .ok (.aload_n 0, 1) := by decide +kernel
theorem dX11_sizeOf_15 : decode cX11_sizeOf 15 = .ok (.getfield 73, 3) := by decide +kernel
theorem dX11_sizeOf_18 : decode cX11_sizeOf 18 = .ok (.iload_n 1, 1) := by decide +kernel
theorem dX11_sizeOf_19 : decode cX11_sizeOf 19 = .ok (.iaload, 1) := by decide +kernel
theorem dX11_sizeOf_20 : decode cX11_sizeOf 20 = .ok (.iaload, 1) := by decide +kernel
theorem dX11_sizeOf_21 : decode cX11_sizeOf 21 = .ok (.iadd, 1) := by decide +kernel
theorem dX11_sizeOf_22 : decode cX11_sizeOf 22 = .ok (.goto 4, 3) := by decide +kernel
theorem dX11_sizeOf_25 : decode cX11_sizeOf 25 = .ok (.iconst 3, 1) := by decide +kernel
theorem dX11_sizeOf_26 : decode cX11_sizeOf 26 = .ok (.ireturn, 1) := by decide +kernel
theorem dX11_grow_0 : decode cX11_grow 0 = .ok (.aload_n 0, 1) := by decide +kernel
theorem dX11_grow_1 : decode cX11_grow 1 = .ok (.dup, 1) := by decide +kernel
theorem dX11_grow_2 : decode cX11_grow 2 = .ok (.getfield 167, 3) := by decide +kernel
theorem dX11_grow_5 : decode cX11_grow 5 = .ok (.iload_n 1, 1) := by decide +kernel
theorem dX11_grow_6 : decode cX11_grow 6 = .ok (.iadd, 1) := by decide +kernel
theorem dX11_grow_7 : decode cX11_grow 7 = .ok (.putfield 167, 3) := by decide +kernel
theorem dX11_grow_10 : decode cX11_grow 10 = .ok (.aload_n 0, 1) := by decide +kernel
theorem dX11_grow_11 : decode cX11_grow 11 = .ok (.aload_n 0, 1) := by decide +kernel
theorem dX11_grow_12 : decode cX11_grow 12 = .ok (.getfield 167, 3) := by decide +kernel
theorem dX11_grow_15 : decode cX11_grow 15 = .ok (.aload_n 0, 1) := by decide +kernel
theorem dX11_grow_16 : decode cX11_grow 16 = .ok (.getfield 170, 3) := by decide +kernel
theorem dX11_grow_19 : decode cX11_grow 19 = .ok (.if_icmp .le 10, 3) := by decide +kernel
theorem dX11_grow_22 : decode cX11_grow 22 = .ok (.aload_n 0, 1) := by decide +kernel
theorem dX11_grow_23 : decode cX11_grow 23 = .ok (.getfield 167, 3) := by decide +kernel
theorem dX11_grow_26 : decode cX11_grow 26 = .ok (.goto 7, 3) := by decide +kernel
theorem dX11_grow_29 : decode cX11_grow 29 = .ok (.aload_n 0, 1) := by decide +kernel
theorem dX11_grow_30 : decode cX11_grow 30 = .ok (.getfield 170, 3) := by decide +kernel
theorem dX11_grow_33 : decode cX11_grow 33 = .ok (.putfield 170, 3) := by decide +kernel
theorem dX11_grow_36 : decode cX11_grow 36 = .ok (.return_, 1) := by decide +kernel
theorem dX11_dropFrom_0 : decode cX11_dropFrom 0 = .ok (.aload_n 0, 1) := by decide +kernel
theorem dX11_dropFrom_1 : decode cX11_dropFrom 1 = .ok (.getfield 173, 3) := by decide +kernel
theorem dX11_dropFrom_4 : decode cX11_dropFrom 4 = .ok (.iload_n 1, 1) := by decide +kernel
theorem dX11_dropFrom_5 : decode cX11_dropFrom 5 = .ok (.if_icmp .le 58, 3) := by decide +kernel
theorem dX11_dropFrom_8 : decode cX11_dropFrom 8 = .ok (.aload_n 0, 1) := by decide +kernel
theorem dX11_dropFrom_9 : decode cX11_dropFrom 9 = .ok (.dup, 1) := by decide +kernel
theorem dX11_dropFrom_10 : decode cX11_dropFrom 10 = .ok (.getfield 173, 3) := by decide +kernel
theorem dX11_dropFrom_13 : decode cX11_dropFrom 13 = .ok (.iconst 1, 1) := by decide +kernel
theorem dX11_dropFrom_14 : decode cX11_dropFrom 14 = .ok (.isub, 1) := by decide +kernel
theorem dX11_dropFrom_15 : decode cX11_dropFrom 15 = .ok (.putfield 173, 3) := by decide +kernel
theorem dX11_dropFrom_18 : decode cX11_dropFrom 18 = .ok (.aload_n 0, 1) := by decide +kernel
theorem dX11_dropFrom_19 : decode cX11_dropFrom 19 = .ok (.dup, 1) := by decide +kernel
theorem dX11_dropFrom_20 : decode cX11_dropFrom 20 = .ok (.getfield 167, 3) := by decide +kernel
theorem dX11_dropFrom_23 : decode cX11_dropFrom 23 = .ok (.aload_n 0, 1) := by decide +kernel
theorem dX11_dropFrom_24 : decode cX11_dropFrom 24 = .ok (.aload_n 0, 1) := by decide +kernel
theorem dX11_dropFrom_25 : decode cX11_dropFrom 25 = .ok (.getfield 173, 3) := by decide +kernel
theorem dX11_dropFrom_28 : decode cX11_dropFrom 28 = .ok (.invokevirtual 176, 3) := by decide +kernel
theorem dX11_dropFrom_31 : decode cX11_dropFrom 31 = .ok (.isub, 1) := by decide +kernel
theorem dX11_dropFrom_32 : decode cX11_dropFrom 32 = .ok (.putfield 167, 3) := by decide +kernel
theorem dX11_dropFrom_35 : decode cX11_dropFrom 35 = .ok (.aload_n 0, 1) := by decide +kernel
theorem dX11_dropFrom_36 : decode cX11_dropFrom 36 = .ok (.getfield 70, 3) := by decide +kernel
theorem dX11_dropFrom_39 : decode cX11_dropFrom 39 = .ok (.aload_n 0, 1) := by decide +kernel
theorem dX11_dropFrom_40 : decode cX11_dropFrom 40 = .ok (.getfield 173, 3) := by decide +kernel
theorem dX11_dropFrom_43 : decode cX11_dropFrom 43 = .ok (.baload, 1) := by decide +kernel
theorem dX11_dropFrom_44 : decode cX11_dropFrom 44 = .ok (.ifCond .eq (-44), 3) := by decide +kernel
theorem dX11_dropFrom_47 : decode cX11_dropFrom 47 = .ok (.aload_n 0, 1) := by decide +kernel
theorem dX11_dropFrom_48 : decode cX11_dropFrom 48 = .ok (.aload_n 0, 1) := by decide +kernel
theorem dX11_dropFrom_49 : decode cX11_dropFrom 49 = .ok (.getfield 76, 3) := by decide +kernel
theorem dX11_dropFrom_52 : decode cX11_dropFrom 52 = .ok (.aload_n 0, 1) := by decide +kernel
theorem dX11_dropFrom_53 : decode cX11_dropFrom 53 = .ok (.getfield 173, 3) := by decide +kernel
theorem dX11_dropFrom_56 : decode cX11_dropFrom 56 = .ok (.iaload, 1) := by decide +kernel
theorem dX11_dropFrom_57 : decode cX11_dropFrom 57 = .ok (.putfield 180, 3) := by decide +kernel
theorem dX11_dropFrom_60 : decode cX11_dropFrom 60 = .ok (.goto (-60), 3) := by decide +kernel
theorem dX11_dropFrom_63 : decode cX11_dropFrom 63 = .ok (.return_, 1) := by decide +kernel
theorem dX11_redos_0 : decode cX11_redos 0 = .ok (.iconst 0, 1) := by decide +kernel
theorem dX11_redos_1 : decode cX11_redos 1 = .ok (.istore_n 1, 1) := by decide +kernel
theorem dX11_redos_2 : decode cX11_redos 2 = .ok (.iconst 0, 1) := by decide +kernel
theorem dX11_redos_3 : decode cX11_redos 3 = .ok (.istore_n 2, 1) := by decide +kernel
theorem dX11_redos_4 : decode cX11_redos 4 = .ok (.iload_n 2, 1) := by decide +kernel
theorem dX11_redos_5 : decode cX11_redos 5 = .ok (.aload_n 0, 1) := by decide +kernel
theorem dX11_redos_6 : decode cX11_redos 6 = .ok (.getfield 173, 3) := by decide +kernel
theorem dX11_redos_9 : decode cX11_redos 9 = .ok (.if_icmp .ge 26, 3) := by decide +kernel
theorem dX11_redos_12 : decode cX11_redos 12 = .ok (.iload_n 1, 1) := by decide +kernel
theorem dX11_redos_13 : decode cX11_redos 13 = .ok (.aload_n 0, 1) := by decide +kernel
theorem dX11_redos_14 : decode cX11_redos 14 = .ok (.getfield 70, 3) := by decide +kernel
theorem dX11_redos_17 : decode cX11_redos 17 = .ok (.iload_n 2, 1) := by decide +kernel
theorem dX11_redos_18 : decode cX11_redos 18 = .ok (.baload, 1) := by decide +kernel
theorem dX11_redos_19 : decode cX11_redos 19 = .ok (.ifCond .eq 7, 3) := by decide +kernel
theorem dX11_redos_22 : decode cX11_redos 22 = .ok (.iconst 0, 1) := by decide +kernel
theorem dX11_redos_23 : decode cX11_redos 23 = .ok (.goto 4, 3) := by decide +kernel
theorem dX11_redos_26 : decode cX11_redos 26 = .ok (.iconst 1, 1) := by decide +kernel
theorem dX11_redos_27 : decode cX11_redos 27 = .ok (.iadd, 1) := by decide +kernel
theorem dX11_redos_28 : decode cX11_redos 28 = .ok (.istore_n 1, 1) := by decide +kernel
theorem dX11_redos_29 : decode cX11_redos 29 = .ok (.iinc 2 1, 3) := by decide +kernel
theorem dX11_redos_32 : decode cX11_redos 32 = .ok (.goto (-28), 3) := by decide +kernel
theorem dX11_redos_35 : decode cX11_redos 35 = .ok (.iload_n 1, 1) := by decide +kernel
theorem dX11_redos_36 : decode cX11_redos 36 = .ok (.ireturn, 1) := by decide +kernel
theorem dX11_redoAt_0 : decode cX11_redoAt 0 = .ok (.iconst 0, 1) := by decide +kernel
theorem dX11_redoAt_1 : decode cX11_redoAt 1 = .ok (.istore_n 2, 1) := by decide +kernel
theorem dX11_redoAt_2 : decode cX11_redoAt 2 = .ok (.iconst 0, 1) := by decide +kernel
theorem dX11_redoAt_3 : decode cX11_redoAt 3 = .ok (.istore_n 3, 1) := by decide +kernel
theorem dX11_redoAt_4 : decode cX11_redoAt 4 = .ok (.iload_n 3, 1) := by decide +kernel
theorem dX11_redoAt_5 : decode cX11_redoAt 5 = .ok (.aload_n 0, 1) := by decide +kernel
theorem dX11_redoAt_6 : decode cX11_redoAt 6 = .ok (.getfield 173, 3) := by decide +kernel
theorem dX11_redoAt_9 : decode cX11_redoAt 9 = .ok (.if_icmp .ge 31, 3) := by decide +kernel
theorem dX11_redoAt_12 : decode cX11_redoAt 12 = .ok (.aload_n 0, 1) := by decide +kernel
theorem dX11_redoAt_13 : decode cX11_redoAt 13 = .ok (.getfield 70, 3) := by decide +kernel
theorem dX11_redoAt_16 : decode cX11_redoAt 16 = .ok (.iload_n 3, 1) := by decide +kernel
theorem dX11_redoAt_17 : decode cX11_redoAt 17 = .ok (.baload, 1) := by decide +kernel
theorem dX11_redoAt_18 : decode cX11_redoAt 18 = .ok (.ifCond .eq 6, 3) := by decide +kernel
theorem dX11_redoAt_21 : decode cX11_redoAt 21 = .ok (.goto 13, 3) := by decide +kernel
theorem dX11_redoAt_24 : decode cX11_redoAt 24 = .ok (.iload_n 2, 1) := by decide +kernel
theorem dX11_redoAt_25 : decode cX11_redoAt 25 = .ok (.iload_n 1, 1) := by decide +kernel
theorem dX11_redoAt_26 : decode cX11_redoAt 26 = .ok (.if_icmp .ne 5, 3) := by decide +kernel
theorem dX11_redoAt_29 : decode cX11_redoAt 29 = .ok (.iload_n 3, 1) := by decide +kernel
theorem dX11_redoAt_30 : decode cX11_redoAt 30 = .ok (.ireturn, 1) := by decide +kernel
theorem dX11_redoAt_31 : decode cX11_redoAt 31 = .ok (.iinc 2 1, 3) := by decide +kernel
theorem dX11_redoAt_34 : decode cX11_redoAt 34 = .ok (.iinc 3 1, 3) := by decide +kernel
theorem dX11_redoAt_37 : decode cX11_redoAt 37 = .ok (.goto (-33), 3) := by decide +kernel
theorem dX11_redoAt_40 : decode cX11_redoAt 40 = .ok (.iconst (-1), 1) := by decide +kernel
theorem dX11_redoAt_41 : decode cX11_redoAt 41 = .ok (.ireturn, 1) := by decide +kernel
theorem dX11_lastRedo_0 : decode cX11_lastRedo 0 = .ok (.aload_n 0, 1) := by decide +kernel
theorem dX11_lastRedo_1 : decode cX11_lastRedo 1 = .ok (.getfield 173, 3) := by decide +kernel
theorem dX11_lastRedo_4 : decode cX11_lastRedo 4 = .ok (.iconst 1, 1) := by decide +kernel
theorem dX11_lastRedo_5 : decode cX11_lastRedo 5 = .ok (.isub, 1) := by decide +kernel
theorem dX11_lastRedo_6 : decode cX11_lastRedo 6 = .ok (.istore_n 1, 1) := by decide +kernel
theorem dX11_lastRedo_7 : decode cX11_lastRedo 7 = .ok (.iload_n 1, 1) := by decide +kernel
theorem dX11_lastRedo_8 : decode cX11_lastRedo 8 = .ok (.ifCond .lt 18, 3) := by decide +kernel
theorem dX11_lastRedo_11 : decode cX11_lastRedo 11 = .ok (.aload_n 0, 1) := by decide +kernel
theorem dX11_lastRedo_12 : decode cX11_lastRedo 12 = .ok (.getfield 70, 3) := by decide +kernel
theorem dX11_lastRedo_15 : decode cX11_lastRedo 15 = .ok (.iload_n 1, 1) := by decide +kernel
theorem dX11_lastRedo_16 : decode cX11_lastRedo 16 = .ok (.baload, 1) := by decide +kernel
theorem dX11_lastRedo_17 : decode cX11_lastRedo 17 = .ok (.ifCond .eq 9, 3) := by decide +kernel
theorem dX11_lastRedo_20 : decode cX11_lastRedo 20 = .ok (.iinc 1 (-1), 3) := by decide +kernel
theorem dX11_lastRedo_23 : decode cX11_lastRedo 23 = .ok (.goto (-16), 3) := by decide +kernel
theorem dX11_lastRedo_26 : decode cX11_lastRedo 26 = .ok (.iload_n 1, 1) := by decide +kernel
theorem dX11_lastRedo_27 : decode cX11_lastRedo 27 = .ok (.ireturn, 1) := by decide +kernel
theorem dX11_pushFrame_0 : decode cX11_pushFrame 0 = .ok (.aload_n 0, 1) := by decide +kernel
theorem dX11_pushFrame_1 : decode cX11_pushFrame 1 = .ok (.getfield 173, 3) := by decide +kernel
theorem dX11_pushFrame_4 : decode cX11_pushFrame 4 = .ok (.istore 4, 2) := by decide +kernel
theorem dX11_pushFrame_6 : decode cX11_pushFrame 6 = .ok (.aload_n 0, 1) := by decide +kernel
theorem dX11_pushFrame_7 : decode cX11_pushFrame 7 = .ok (.getfield 70, 3) := by decide +kernel
theorem dX11_pushFrame_10 : decode cX11_pushFrame 10 = .ok (.iload 4, 2) := by decide +kernel
theorem dX11_pushFrame_12 : decode cX11_pushFrame 12 = .ok (.iconst 1, 1) := by decide +kernel
theorem dX11_pushFrame_13 : decode cX11_pushFrame 13 = .ok (.bastore, 1) := by decide +kernel
theorem dX11_pushFrame_14 : decode cX11_pushFrame 14 = .ok (.aload_n 0, 1) := by decide +kernel
theorem dX11_pushFrame_15 : decode cX11_pushFrame 15 = .ok (.getfield 73, 3) := by decide +kernel
theorem dX11_pushFrame_18 : decode cX11_pushFrame 18 = .ok (.iload 4, 2) := by decide +kernel
theorem dX11_pushFrame_20 : decode cX11_pushFrame 20 = .ok (.iload_n 1, 1) := by decide +kernel
theorem dX11_pushFrame_21 : decode cX11_pushFrame 21 = .ok (.iastore, 1) := by decide +kernel
theorem dX11_pushFrame_22 : decode cX11_pushFrame 22 = .ok (.aload_n 0, 1) := by decide +kernel
theorem dX11_pushFrame_23 : decode cX11_pushFrame 23 = .ok (.getfield 76, 3) := by decide +kernel
theorem dX11_pushFrame_26 : decode cX11_pushFrame 26 = .ok (.iload 4, 2) := by decide +kernel
theorem dX11_pushFrame_28 : decode cX11_pushFrame 28 = .ok (.aload_n 0, 1) := by decide +kernel
theorem dX11_pushFrame_29 : decode cX11_pushFrame 29 = .ok (.getfield 180, 3) := by decide +kernel
theorem dX11_pushFrame_32 : decode cX11_pushFrame 32 = .ok (.iastore, 1) := by decide +kernel
theorem dX11_pushFrame_33 : decode cX11_pushFrame 33 = .ok (.aload_n 0, 1) := by decide +kernel
theorem dX11_pushFrame_34 : decode cX11_pushFrame 34 = .ok (.getfield 79, 3) := by decide +kernel
theorem dX11_pushFrame_37 : decode cX11_pushFrame 37 = .ok (.iload 4, 2) := by decide +kernel
theorem dX11_pushFrame_39 : decode cX11_pushFrame 39 = .ok (.iconst 0, 1) := by decide +kernel
theorem dX11_pushFrame_40 : decode cX11_pushFrame 40 = .ok (.iastore, 1) := by decide +kernel
theorem dX11_pushFrame_41 : decode cX11_pushFrame 41 = .ok (.aload_n 0, 1) := by decide +kernel
theorem dX11_pushFrame_42 : decode cX11_pushFrame 42 = .ok (.getfield 82, 3) := by decide +kernel
theorem dX11_pushFrame_45 : decode cX11_pushFrame 45 = .ok (.iload 4, 2) := by decide +kernel
theorem dX11_pushFrame_47 : decode cX11_pushFrame 47 = .ok (.iload_n 2, 1) := by decide +kernel
theorem dX11_pushFrame_48 : decode cX11_pushFrame 48 = .ok (.iastore, 1) := by decide +kernel
theorem dX11_pushFrame_49 : decode cX11_pushFrame 49 = .ok (.aload_n 0, 1) := by decide +kernel
theorem dX11_pushFrame_50 : decode cX11_pushFrame 50 = .ok (.getfield 85, 3) := by decide +kernel
theorem dX11_pushFrame_53 : decode cX11_pushFrame 53 = .ok (.iload 4, 2) := by decide +kernel
theorem dX11_pushFrame_55 : decode cX11_pushFrame 55 = .ok (.iload_n 3, 1) := by decide +kernel
theorem dX11_pushFrame_56 : decode cX11_pushFrame 56 = .ok (.iastore, 1) := by decide +kernel
theorem dX11_pushFrame_57 : decode cX11_pushFrame 57 = .ok (.aload_n 0, 1) := by decide +kernel
theorem dX11_pushFrame_58 : decode cX11_pushFrame 58 = .ok (.getfield 88, 3) := by decide +kernel
theorem dX11_pushFrame_61 : decode cX11_pushFrame 61 = .ok (.iload 4, 2) := by decide +kernel
theorem dX11_pushFrame_63 : decode cX11_pushFrame 63 = .ok (.aload_n 0, 1) := by decide +kernel
theorem dX11_pushFrame_64 : decode cX11_pushFrame 64 = .ok (.invokevirtual 183, 3) := by decide +kernel
theorem dX11_pushFrame_67 : decode cX11_pushFrame 67 = .ok (.iastore, 1) := by decide +kernel
theorem dX11_pushFrame_68 : decode cX11_pushFrame 68 = .ok (.iconst 0, 1) := by decide +kernel
theorem dX11_pushFrame_69 : decode cX11_pushFrame 69 = .ok (.istore 5, 2) := by decide +kernel
theorem dX11_pushFrame_71 : decode cX11_pushFrame 71 = .ok (.iload 5, 2) := by decide +kernel
theorem dX11_pushFrame_73 : decode cX11_pushFrame 73 = .ok (.aload_n 0, 1) := by decide +kernel
theorem dX11_pushFrame_74 : decode cX11_pushFrame 74 = .ok (.getfield 17, 3) := by decide +kernel
theorem dX11_pushFrame_77 : decode cX11_pushFrame 77 = .ok (.iload_n 1, 1) := by decide +kernel
theorem dX11_pushFrame_78 : decode cX11_pushFrame 78 = .ok (.iaload, 1) := by decide +kernel
theorem dX11_pushFrame_79 : decode cX11_pushFrame 79 = .ok (.if_icmp .ge 22, 3) := by decide +kernel
theorem dX11_pushFrame_82 : decode cX11_pushFrame 82 = .ok (.aload_n 0, 1) := by decide +kernel
theorem dX11_pushFrame_83 : decode cX11_pushFrame 83 = .ok (.getfield 106, 3) := by decide +kernel
theorem dX11_pushFrame_86 : decode cX11_pushFrame 86 = .ok (.aload_n 0, 1) := by decide +kernel
theorem dX11_pushFrame_87 : decode cX11_pushFrame 87 = .ok (.getfield 180, 3) := by decide +kernel
theorem dX11_pushFrame_90 : decode cX11_pushFrame 90 = .ok (.iload 5, 2) := by decide +kernel
theorem dX11_pushFrame_92 : decode cX11_pushFrame 92 = .ok (.iadd, 1) := by decide +kernel
theorem dX11_pushFrame_93 : decode cX11_pushFrame 93 = .ok (.lconst 0, 1) := by decide +kernel
theorem dX11_pushFrame_94 : decode cX11_pushFrame 94 = .ok (.lastore, 1) := by decide +kernel
theorem dX11_pushFrame_95 : decode cX11_pushFrame 95 = .ok (.iinc 5 1, 3) := by decide +kernel
theorem dX11_pushFrame_98 : decode cX11_pushFrame 98 = .ok (.goto (-27), 3) := by decide +kernel
theorem dX11_pushFrame_101 : decode cX11_pushFrame 101 = .ok (.aload_n 0, 1) := by decide +kernel
theorem dX11_pushFrame_102 : decode cX11_pushFrame 102 = .ok (.dup, 1) := by decide +kernel
theorem dX11_pushFrame_103 : decode cX11_pushFrame 103 = .ok (.getfield 180, 3) := by decide +kernel
theorem dX11_pushFrame_106 : decode cX11_pushFrame 106 = .ok (.aload_n 0, 1) := by decide +kernel
theorem dX11_pushFrame_107 : decode cX11_pushFrame 107 = .ok (.getfield 17, 3) := by decide +kernel
theorem dX11_pushFrame_110 : decode cX11_pushFrame 110 = .ok (.iload_n 1, 1) := by decide +kernel
theorem dX11_pushFrame_111 : decode cX11_pushFrame 111 = .ok (.iaload, 1) := by decide +kernel
theorem dX11_pushFrame_112 : decode cX11_pushFrame 112 = .ok (.iadd, 1) := by decide +kernel
theorem dX11_pushFrame_113 : decode cX11_pushFrame 113 = .ok (.putfield 180, 3) := by decide +kernel
theorem dX11_pushFrame_116 : decode cX11_pushFrame 116 = .ok (.aload_n 0, 1) := by decide +kernel
theorem dX11_pushFrame_117 : decode cX11_pushFrame 117 = .ok (.dup, 1) := by decide +kernel
theorem dX11_pushFrame_118 : decode cX11_pushFrame 118 = .ok (.getfield 173, 3) := by decide +kernel
theorem dX11_pushFrame_121 : decode cX11_pushFrame 121 = .ok (.iconst 1, 1) := by decide +kernel
theorem dX11_pushFrame_122 : decode cX11_pushFrame 122 = .ok (.iadd, 1) := by decide +kernel
theorem dX11_pushFrame_123 : decode cX11_pushFrame 123 = .ok (.putfield 173, 3) := by decide +kernel
theorem dX11_pushFrame_126 : decode cX11_pushFrame 126 = .ok (.aload_n 0, 1) := by decide +kernel
theorem dX11_pushFrame_127 : decode cX11_pushFrame 127 = .ok (.iconst 2, 1) := by decide +kernel
theorem dX11_pushFrame_128 : decode cX11_pushFrame 128 = .ok (.aload_n 0, 1) := by decide +kernel
theorem dX11_pushFrame_129 : decode cX11_pushFrame 129 = .ok (.getfield 17, 3) := by decide +kernel
theorem dX11_pushFrame_132 : decode cX11_pushFrame 132 = .ok (.iload_n 1, 1) := by decide +kernel
theorem dX11_pushFrame_133 : decode cX11_pushFrame 133 = .ok (.iaload, 1) := by decide +kernel
theorem dX11_pushFrame_134 : decode cX11_pushFrame 134 = .ok (.iadd, 1) := by decide +kernel
theorem dX11_pushFrame_135 : decode cX11_pushFrame 135 = .ok (.invokevirtual 186, 3) := by decide +kernel
theorem dX11_pushFrame_138 : decode cX11_pushFrame 138 = .ok (.return_, 1) := by decide +kernel
theorem dX11_cut_0 : decode cX11_cut 0 = .ok (.iload_n 1, 1) := by decide +kernel
theorem dX11_cut_1 : decode cX11_cut 1 = .ok (.ifCond .ge 7, 3) := by decide +kernel
theorem dX11_cut_4 : decode cX11_cut 4 = .ok (.iconst 0, 1) := by decide +kernel
theorem dX11_cut_5 : decode cX11_cut 5 = .ok (.goto 4, 3) := by decide +kernel
theorem dX11_cut_8 : decode cX11_cut 8 = .ok (.iload_n 1, 1) := by decide +kernel
theorem dX11_cut_9 : decode cX11_cut 9 = .ok (.istore_n 2, 1) := by decide +kernel
theorem dX11_cut_10 : decode cX11_cut 10 = .ok (.aload_n 0, 1) := by decide +kernel
theorem dX11_cut_11 : decode cX11_cut 11 = .ok (.iload_n 2, 1) := by decide +kernel
theorem dX11_cut_12 : decode cX11_cut 12 = .ok (.invokevirtual 190, 3) := by decide +kernel
theorem dX11_cut_15 : decode cX11_cut 15 = .ok (.istore_n 3, 1) := by decide +kernel
theorem dX11_cut_16 : decode cX11_cut 16 = .ok (.iload_n 3, 1) := by decide +kernel
theorem dX11_cut_17 : decode cX11_cut 17 = .ok (.iconst (-1), 1) := by decide +kernel
theorem dX11_cut_18 : decode cX11_cut 18 = .ok (.if_icmp .ne 8, 3) := by decide +kernel
theorem dX11_cut_21 : decode cX11_cut 21 = .ok (.aload_n 0, 1) := by decide +kernel
theorem dX11_cut_22 : decode cX11_cut 22 = .ok (.invokevirtual 193, 3) := by decide +kernel
theorem dX11_cut_25 : decode cX11_cut 25 = .ok (.return_, 1) := by decide +kernel
theorem dX11_cut_26 : decode cX11_cut 26 = .ok (.aload_n 0, 1) := by decide +kernel
theorem dX11_cut_27 : decode cX11_cut 27 = .ok (.iload_n 3, 1) := by decide +kernel
theorem dX11_cut_28 : decode cX11_cut 28 = .ok (.putfield 196, 3) := by decide +kernel
theorem dX11_cut_31 : decode cX11_cut 31 = .ok (.iload_n 3, 1) := by decide +kernel
theorem dX11_cut_32 : decode cX11_cut 32 = .ok (.istore 4, 2) := by decide +kernel
theorem dX11_cut_34 : decode cX11_cut 34 = .ok (.iload_n 3, 1) := by decide +kernel
theorem dX11_cut_35 : decode cX11_cut 35 = .ok (.istore 5, 2) := by decide +kernel
theorem dX11_cut_37 : decode cX11_cut 37 = .ok (.iload 5, 2) := by decide +kernel
theorem dX11_cut_39 : decode cX11_cut 39 = .ok (.aload_n 0, 1) := by decide +kernel
theorem dX11_cut_40 : decode cX11_cut 40 = .ok (.getfield 173, 3) := by decide +kernel
theorem dX11_cut_43 : decode cX11_cut 43 = .ok (.if_icmp .ge 52, 3) := by decide +kernel
theorem dX11_cut_46 : decode cX11_cut 46 = .ok (.aload_n 0, 1) := by decide +kernel
theorem dX11_cut_47 : decode cX11_cut 47 = .ok (.getfield 129, 3) := by decide +kernel
theorem dX11_cut_50 : decode cX11_cut 50 = .ok (.iload 5, 2) := by decide +kernel
theorem dX11_cut_52 : decode cX11_cut 52 = .ok (.iload 4, 2) := by decide +kernel
theorem dX11_cut_54 : decode cX11_cut 54 = .ok (.iastore, 1) := by decide +kernel
theorem dX11_cut_55 : decode cX11_cut 55 = .ok (.aload_n 0, 1) := by decide +kernel
theorem dX11_cut_56 : decode cX11_cut 56 = .ok (.getfield 70, 3) := by decide +kernel
theorem dX11_cut_59 : decode cX11_cut 59 = .ok (.iload 5, 2) := by decide +kernel
theorem dX11_cut_61 : decode cX11_cut 61 = .ok (.baload, 1) := by decide +kernel
theorem dX11_cut_62 : decode cX11_cut 62 = .ok (.ifCond .ne 16, 3) := by decide +kernel
theorem dX11_cut_65 : decode cX11_cut 65 = .ok (.aload_n 0, 1) := by decide +kernel
theorem dX11_cut_66 : decode cX11_cut 66 = .ok (.dup, 1) := by decide +kernel
theorem dX11_cut_67 : decode cX11_cut 67 = .ok (.getfield 167, 3) := by decide +kernel
theorem dX11_cut_70 : decode cX11_cut 70 = .ok (.iconst 3, 1) := by decide +kernel
theorem dX11_cut_71 : decode cX11_cut 71 = .ok (.isub, 1) := by decide +kernel
theorem dX11_cut_72 : decode cX11_cut 72 = .ok (.putfield 167, 3) := by decide +kernel
theorem dX11_cut_75 : decode cX11_cut 75 = .ok (.goto 14, 3) := by decide +kernel
theorem dX11_cut_78 : decode cX11_cut 78 = .ok (.aload_n 0, 1) := by decide +kernel
theorem dX11_cut_79 : decode cX11_cut 79 = .ok (.iload 5, 2) := by decide +kernel
theorem dX11_cut_81 : decode cX11_cut 81 = .ok (.iload 4, 2) := by decide +kernel
theorem dX11_cut_83 : decode cX11_cut 83 = .ok (.invokevirtual 199, 3) := by decide +kernel
theorem dX11_cut_86 : decode cX11_cut 86 = .ok (.iinc 4 1, 3) := by decide +kernel
theorem dX11_cut_89 : decode cX11_cut 89 = .ok (.iinc 5 1, 3) := by decide +kernel
theorem dX11_cut_92 : decode cX11_cut 92 = .ok (.goto (-55), 3) := by decide +kernel
theorem dX11_cut_95 : decode cX11_cut 95 = .ok (.aload_n 0, 1) := by decide +kernel
theorem dX11_cut_96 : decode cX11_cut 96 = .ok (.iload 4, 2) := by decide +kernel
theorem dX11_cut_98 : decode cX11_cut 98 = .ok (.putfield 173, 3) := by decide +kernel
theorem dX11_cut_101 : decode cX11_cut 101 = .ok (.aload_n 0, 1) := by decide +kernel
theorem dX11_cut_102 : decode cX11_cut 102 = .ok (.aload_n 0, 1) := by decide +kernel
theorem dX11_cut_103 : decode cX11_cut 103 = .ok (.getfield 203, 3) := by decide +kernel
theorem dX11_cut_106 : decode cX11_cut 106 = .ok (.iload_n 3, 1) := by decide +kernel
theorem dX11_cut_107 : decode cX11_cut 107 = .ok (.if_icmp .ge 10, 3) := by decide +kernel
theorem dX11_cut_110 : decode cX11_cut 110 = .ok (.aload_n 0, 1) := by decide +kernel
theorem dX11_cut_111 : decode cX11_cut 111 = .ok (.getfield 203, 3) := by decide +kernel
theorem dX11_cut_114 : decode cX11_cut 114 = .ok (.goto 12, 3) := by decide +kernel
theorem dX11_cut_117 : decode cX11_cut 117 = .ok (.aload_n 0, 1) := by decide +kernel
theorem dX11_cut_118 : decode cX11_cut 118 = .ok (.getfield 129, 3) := by decide +kernel
theorem dX11_cut_121 : decode cX11_cut 121 = .ok (.aload_n 0, 1) := by decide +kernel
theorem dX11_cut_122 : decode cX11_cut 122 = .ok (.getfield 203, 3) := by decide +kernel
theorem dX11_cut_125 : decode cX11_cut 125 = .ok (.iaload, 1) := by decide +kernel
theorem dX11_cut_126 : decode cX11_cut 126 = .ok (.putfield 203, 3) := by decide +kernel
theorem dX11_cut_129 : decode cX11_cut 129 = .ok (.aload_n 0, 1) := by decide +kernel
theorem dX11_cut_130 : decode cX11_cut 130 = .ok (.invokevirtual 193, 3) := by decide +kernel
theorem dX11_cut_133 : decode cX11_cut 133 = .ok (.return_, 1) := by decide +kernel
theorem dX11_copyFrame_0 : decode cX11_copyFrame 0 = .ok (.aload_n 0, 1) := by decide +kernel
theorem dX11_copyFrame_1 : decode cX11_copyFrame 1 = .ok (.getfield 70, 3) := by decide +kernel
theorem dX11_copyFrame_4 : decode cX11_copyFrame 4 = .ok (.iload_n 2, 1) := by decide +kernel
theorem dX11_copyFrame_5 : decode cX11_copyFrame 5 = .ok (.iconst 1, 1) := by decide +kernel
theorem dX11_copyFrame_6 : decode cX11_copyFrame 6 = .ok (.bastore, 1) := by decide +kernel
theorem dX11_copyFrame_7 : decode cX11_copyFrame 7 = .ok (.aload_n 0, 1) := by decide +kernel
theorem dX11_copyFrame_8 : decode cX11_copyFrame 8 = .ok (.getfield 73, 3) := by decide +kernel
theorem dX11_copyFrame_11 : decode cX11_copyFrame 11 = .ok (.iload_n 2, 1) := by decide +kernel
theorem dX11_copyFrame_12 : decode cX11_copyFrame 12 = .ok (.aload_n 0, 1) := by decide +kernel
theorem dX11_copyFrame_13 : decode cX11_copyFrame 13 = .ok (.getfield 73, 3) := by decide +kernel
theorem dX11_copyFrame_16 : decode cX11_copyFrame 16 = .ok (.iload_n 1, 1) := by decide +kernel
theorem dX11_copyFrame_17 : decode cX11_copyFrame 17 = .ok (.iaload, 1) := by decide +kernel
theorem dX11_copyFrame_18 : decode cX11_copyFrame 18 = .ok (.iastore, 1) := by decide +kernel
theorem dX11_copyFrame_19 : decode cX11_copyFrame 19 = .ok (.aload_n 0, 1) := by decide +kernel
theorem dX11_copyFrame_20 : decode cX11_copyFrame 20 = .ok (.getfield 76, 3) := by decide +kernel
theorem dX11_copyFrame_23 : decode cX11_copyFrame 23 = .ok (.iload_n 2, 1) := by decide +kernel
theorem dX11_copyFrame_24 : decode cX11_copyFrame 24 = .ok (.aload_n 0, 1) := by decide +kernel
theorem dX11_copyFrame_25 : decode cX11_copyFrame 25 = .ok (.getfield 76, 3) := by decide +kernel
theorem dX11_copyFrame_28 : decode cX11_copyFrame 28 = .ok (.iload_n 1, 1) := by decide +kernel
theorem dX11_copyFrame_29 : decode cX11_copyFrame 29 = .ok (.iaload, 1) := by decide +kernel
theorem dX11_copyFrame_30 : decode cX11_copyFrame 30 = .ok (.iastore, 1) := by decide +kernel
theorem dX11_copyFrame_31 : decode cX11_copyFrame 31 = .ok (.aload_n 0, 1) := by decide +kernel
theorem dX11_copyFrame_32 : decode cX11_copyFrame 32 = .ok (.getfield 79, 3) := by decide +kernel
theorem dX11_copyFrame_35 : decode cX11_copyFrame 35 = .ok (.iload_n 2, 1) := by decide +kernel
theorem dX11_copyFrame_36 : decode cX11_copyFrame 36 = .ok (.aload_n 0, 1) := by decide +kernel
theorem dX11_copyFrame_37 : decode cX11_copyFrame 37 = .ok (.getfield 79, 3) := by decide +kernel
theorem dX11_copyFrame_40 : decode cX11_copyFrame 40 = .ok (.iload_n 1, 1) := by decide +kernel
theorem dX11_copyFrame_41 : decode cX11_copyFrame 41 = .ok (.iaload, 1) := by decide +kernel
theorem dX11_copyFrame_42 : decode cX11_copyFrame 42 = .ok (.iastore, 1) := by decide +kernel
theorem dX11_copyFrame_43 : decode cX11_copyFrame 43 = .ok (.aload_n 0, 1) := by decide +kernel
theorem dX11_copyFrame_44 : decode cX11_copyFrame 44 = .ok (.getfield 85, 3) := by decide +kernel
theorem dX11_copyFrame_47 : decode cX11_copyFrame 47 = .ok (.iload_n 2, 1) := by decide +kernel
theorem dX11_copyFrame_48 : decode cX11_copyFrame 48 = .ok (.aload_n 0, 1) := by decide +kernel
theorem dX11_copyFrame_49 : decode cX11_copyFrame 49 = .ok (.getfield 85, 3) := by decide +kernel
theorem dX11_copyFrame_52 : decode cX11_copyFrame 52 = .ok (.iload_n 1, 1) := by decide +kernel
theorem dX11_copyFrame_53 : decode cX11_copyFrame 53 = .ok (.iaload, 1) := by decide +kernel
theorem dX11_copyFrame_54 : decode cX11_copyFrame 54 = .ok (.iastore, 1) := by decide +kernel
theorem dX11_copyFrame_55 : decode cX11_copyFrame 55 = .ok (.aload_n 0, 1) := by decide +kernel
theorem dX11_copyFrame_56 : decode cX11_copyFrame 56 = .ok (.getfield 88, 3) := by decide +kernel
theorem dX11_copyFrame_59 : decode cX11_copyFrame 59 = .ok (.iload_n 2, 1) := by decide +kernel
theorem dX11_copyFrame_60 : decode cX11_copyFrame 60 = .ok (.aload_n 0, 1) := by decide +kernel
theorem dX11_copyFrame_61 : decode cX11_copyFrame 61 = .ok (.getfield 88, 3) := by decide +kernel
theorem dX11_copyFrame_64 : decode cX11_copyFrame 64 = .ok (.iload_n 1, 1) := by decide +kernel
theorem dX11_copyFrame_65 : decode cX11_copyFrame 65 = .ok (.iaload, 1) := by decide +kernel
theorem dX11_copyFrame_66 : decode cX11_copyFrame 66 = .ok (.iastore, 1) := by decide +kernel
theorem dX11_copyFrame_67 : decode cX11_copyFrame 67 = .ok (.aload_n 0, 1) := by decide +kernel
theorem dX11_copyFrame_68 : decode cX11_copyFrame 68 = .ok (.getfield 82, 3) := by decide +kernel
theorem dX11_copyFrame_71 : decode cX11_copyFrame 71 = .ok (.iload_n 1, 1) := by decide +kernel
theorem dX11_copyFrame_72 : decode cX11_copyFrame 72 = .ok (.iaload, 1) := by decide +kernel
theorem dX11_copyFrame_73 : decode cX11_copyFrame 73 = .ok (.istore_n 3, 1) := by decide +kernel
theorem dX11_copyFrame_74 : decode cX11_copyFrame 74 = .ok (.aload_n 0, 1) := by decide +kernel
theorem dX11_copyFrame_75 : decode cX11_copyFrame 75 = .ok (.getfield 82, 3) := by decide +kernel
theorem dX11_copyFrame_78 : decode cX11_copyFrame 78 = .ok (.iload_n 2, 1) := by decide +kernel
theorem dX11_copyFrame_79 : decode cX11_copyFrame 79 = .ok (.iload_n 3, 1) := by decide +kernel
theorem dX11_copyFrame_80 : decode cX11_copyFrame 80 = .ok (.iconst (-1), 1) := by decide +kernel
theorem dX11_copyFrame_81 : decode cX11_copyFrame 81 = .ok (.if_icmp .eq 21, 3) := by decide +kernel
theorem dX11_copyFrame_84 : decode cX11_copyFrame 84 = .ok (.aload_n 0, 1) := by decide +kernel
theorem dX11_copyFrame_85 : decode cX11_copyFrame 85 = .ok (.iload_n 3, 1) := by decide +kernel
theorem dX11_copyFrame_86 : decode cX11_copyFrame 86 = .ok (.iload_n 1, 1) := by decide +kernel
theorem dX11_copyFrame_87 : decode cX11_copyFrame 87 = .ok (.invokevirtual 206, 3) := by decide +kernel
theorem dX11_copyFrame_90 : decode cX11_copyFrame 90 = .ok (.ifCond .eq 12, 3) := by decide +kernel
theorem dX11_copyFrame_93 : decode cX11_copyFrame 93 = .ok (.aload_n 0, 1) := by decide +kernel
theorem dX11_copyFrame_94 : decode cX11_copyFrame 94 = .ok (.getfield 129, 3) := by decide +kernel
theorem dX11_copyFrame_97 : decode cX11_copyFrame 97 = .ok (.iload_n 3, 1) := by decide +kernel
theorem dX11_copyFrame_98 : decode cX11_copyFrame 98 = .ok (.iaload, 1) := by decide +kernel
theorem dX11_copyFrame_99 : decode cX11_copyFrame 99 = .ok (.goto 4, 3) := by decide +kernel
theorem dX11_copyFrame_102 : decode cX11_copyFrame 102 = .ok (.iload_n 3, 1) := by decide +kernel
theorem dX11_copyFrame_103 : decode cX11_copyFrame 103 = .ok (.iastore, 1) := by decide +kernel
theorem dX11_copyFrame_104 : decode cX11_copyFrame 104 = .ok (.return_, 1) := by decide +kernel
theorem dX11_isMoved_0 : decode cX11_isMoved 0 = .ok (.iload_n 1, 1) := by decide +kernel
theorem dX11_isMoved_1 : decode cX11_isMoved 1 = .ok (.aload_n 0, 1) := by decide +kernel
theorem dX11_isMoved_2 : decode cX11_isMoved 2 = .ok (.getfield 196, 3) := by decide +kernel
theorem dX11_isMoved_5 : decode cX11_isMoved 5 = .ok (.if_icmp .lt 12, 3) := by decide +kernel
theorem dX11_isMoved_8 : decode cX11_isMoved 8 = .ok (.iload_n 1, 1) := by decide +kernel
theorem dX11_isMoved_9 : decode cX11_isMoved 9 = .ok (.iload_n 2, 1) := by decide +kernel
theorem dX11_isMoved_10 : decode cX11_isMoved 10 = .ok (.if_icmp .ge 7, 3) := by decide +kernel
theorem dX11_isMoved_13 : decode cX11_isMoved 13 = .ok (.iconst 1, 1) := by decide +kernel
theorem dX11_isMoved_14 : decode cX11_isMoved 14 = .ok (.goto 4, 3) := by decide +kernel
theorem dX11_isMoved_17 : decode cX11_isMoved 17 = .ok (.iconst 0, 1) := by decide +kernel
theorem dX11_isMoved_18 : decode cX11_isMoved 18 = .ok (.ireturn, 1) := by decide +kernel
theorem dX11_dropAbove_0 : decode cX11_dropAbove 0 = .ok (.aload_n 0, 1) := by decide +kernel
theorem dX11_dropAbove_1 : decode cX11_dropAbove 1 = .ok (.invokevirtual 209, 3) := by decide +kernel
theorem dX11_dropAbove_4 : decode cX11_dropAbove 4 = .ok (.istore_n 1, 1) := by decide +kernel
theorem dX11_dropAbove_5 : decode cX11_dropAbove 5 = .ok (.aload_n 0, 1) := by decide +kernel
theorem dX11_dropAbove_6 : decode cX11_dropAbove 6 = .ok (.iconst 1, 1) := by decide +kernel
theorem dX11_dropAbove_7 : decode cX11_dropAbove 7 = .ok (.aload_n 0, 1) := by decide +kernel
theorem dX11_dropAbove_8 : decode cX11_dropAbove 8 = .ok (.getfield 203, 3) := by decide +kernel
theorem dX11_dropAbove_11 : decode cX11_dropAbove 11 = .ok (.iload_n 1, 1) := by decide +kernel
theorem dX11_dropAbove_12 : decode cX11_dropAbove 12 = .ok (.if_icmp .le 10, 3) := by decide +kernel
theorem dX11_dropAbove_15 : decode cX11_dropAbove 15 = .ok (.aload_n 0, 1) := by decide +kernel
theorem dX11_dropAbove_16 : decode cX11_dropAbove 16 = .ok (.getfield 203, 3) := by decide +kernel
theorem dX11_dropAbove_19 : decode cX11_dropAbove 19 = .ok (.goto 4, 3) := by decide +kernel
theorem dX11_dropAbove_22 : decode cX11_dropAbove 22 = .ok (.iload_n 1, 1) := by decide +kernel
theorem dX11_dropAbove_23 : decode cX11_dropAbove 23 = .ok (.iadd, 1) := by decide +kernel
theorem dX11_dropAbove_24 : decode cX11_dropAbove 24 = .ok (.invokevirtual 212, 3) := by decide +kernel
theorem dX11_dropAbove_27 : decode cX11_dropAbove 27 = .ok (.return_, 1) := by decide +kernel
theorem dX11_isCell_0 : decode cX11_isCell 0 = .ok (.lload_n 0, 1) := by decide +kernel
theorem dX11_isCell_1 : decode cX11_isCell 1 = .ok (.ldc2_w 215, 3) := by decide +kernel
theorem dX11_isCell_4 : decode cX11_isCell 4 = .ok (.lcmp, 1) := by decide +kernel
theorem dX11_isCell_5 : decode cX11_isCell 5 = .ok (.ifCond .lt 7, 3) := by decide +kernel
theorem dX11_isCell_8 : decode cX11_isCell 8 = .ok (.iconst 1, 1) := by decide +kernel
theorem dX11_isCell_9 : decode cX11_isCell 9 = .ok (.goto 4, 3) := by decide +kernel
theorem dX11_isCell_12 : decode cX11_isCell 12 = .ok (.iconst 0, 1) := by decide +kernel
theorem dX11_isCell_13 : decode cX11_isCell 13 = .ok (.ireturn, 1) := by decide +kernel
theorem dX11_get_0 : decode cX11_get 0 = .ok (.aload_n 0, 1) := by decide +kernel
theorem dX11_get_1 : decode cX11_get 1 = .ok (.getfield 106, 3) := by decide +kernel
theorem dX11_get_4 : decode cX11_get 4 = .ok (.aload_n 0, 1) := by decide +kernel
theorem dX11_get_5 : decode cX11_get 5 = .ok (.getfield 76, 3) := by decide +kernel
theorem dX11_get_8 : decode cX11_get 8 = .ok (.aload_n 0, 1) := by decide +kernel
theorem dX11_get_9 : decode cX11_get 9 = .ok (.getfield 203, 3) := by decide +kernel
theorem dX11_get_12 : decode cX11_get 12 = .ok (.iaload, 1) := by decide +kernel
theorem dX11_get_13 : decode cX11_get 13 = .ok (.iload_n 1, 1) := by decide +kernel
theorem dX11_get_14 : decode cX11_get 14 = .ok (.iadd, 1) := by decide +kernel
theorem dX11_get_15 : decode cX11_get 15 = .ok (.laload, 1) := by decide +kernel
theorem dX11_get_16 : decode cX11_get 16 = .ok (.lreturn, 1) := by decide +kernel
theorem dX11_write_0 : decode cX11_write 0 = .ok (.aload_n 0, 1) := by decide +kernel
theorem dX11_write_1 : decode cX11_write 1 = .ok (.getfield 76, 3) := by decide +kernel
theorem dX11_write_4 : decode cX11_write 4 = .ok (.iload_n 1, 1) := by decide +kernel
theorem dX11_write_5 : decode cX11_write 5 = .ok (.iaload, 1) := by decide +kernel
theorem dX11_write_6 : decode cX11_write 6 = .ok (.iload_n 2, 1) := by decide +kernel
theorem dX11_write_7 : decode cX11_write 7 = .ok (.iadd, 1) := by decide +kernel
theorem dX11_write_8 : decode cX11_write 8 = .ok (.istore 5, 2) := by decide +kernel
theorem dX11_write_10 : decode cX11_write 10 = .ok (.aload_n 0, 1) := by decide +kernel
theorem dX11_write_11 : decode cX11_write 11 = .ok (.getfield 110, 3) := by decide +kernel
theorem dX11_write_14 : decode cX11_write 14 = .ok (.aload_n 0, 1) := by decide +kernel
theorem dX11_write_15 : decode cX11_write 15 = .ok (.getfield 217, 3) := by decide +kernel
theorem dX11_write_18 : decode cX11_write 18 = .ok (.iload 5, 2) := by decide +kernel
theorem dX11_write_20 : decode cX11_write 20 = .ok (.iastore, 1) := by decide +kernel
theorem dX11_write_21 : decode cX11_write 21 = .ok (.aload_n 0, 1) := by decide +kernel
theorem dX11_write_22 : decode cX11_write 22 = .ok (.getfield 113, 3) := by decide +kernel
theorem dX11_write_25 : decode cX11_write 25 = .ok (.aload_n 0, 1) := by decide +kernel
theorem dX11_write_26 : decode cX11_write 26 = .ok (.getfield 217, 3) := by decide +kernel
theorem dX11_write_29 : decode cX11_write 29 = .ok (.aload_n 0, 1) := by decide +kernel
theorem dX11_write_30 : decode cX11_write 30 = .ok (.getfield 106, 3) := by decide +kernel
theorem dX11_write_33 : decode cX11_write 33 = .ok (.iload 5, 2) := by decide +kernel
theorem dX11_write_35 : decode cX11_write 35 = .ok (.laload, 1) := by decide +kernel
theorem dX11_write_36 : decode cX11_write 36 = .ok (.lastore, 1) := by decide +kernel
theorem dX11_write_37 : decode cX11_write 37 = .ok (.aload_n 0, 1) := by decide +kernel
theorem dX11_write_38 : decode cX11_write 38 = .ok (.dup, 1) := by decide +kernel
theorem dX11_write_39 : decode cX11_write 39 = .ok (.getfield 217, 3) := by decide +kernel
theorem dX11_write_42 : decode cX11_write 42 = .ok (.iconst 1, 1) := by decide +kernel
theorem dX11_write_43 : decode cX11_write 43 = .ok (.iadd, 1) := by decide +kernel
theorem dX11_write_44 : decode cX11_write 44 = .ok (.putfield 217, 3) := by decide +kernel
theorem dX11_write_47 : decode cX11_write 47 = .ok (.aload_n 0, 1) := by decide +kernel
theorem dX11_write_48 : decode cX11_write 48 = .ok (.getfield 106, 3) := by decide +kernel
theorem dX11_write_51 : decode cX11_write 51 = .ok (.iload 5, 2) := by decide +kernel
theorem dX11_write_53 : decode cX11_write 53 = .ok (.lload_n 3, 1) := by decide +kernel
theorem dX11_write_54 : decode cX11_write 54 = .ok (.lastore, 1) := by decide +kernel
theorem dX11_write_55 : decode cX11_write 55 = .ok (.return_, 1) := by decide +kernel
theorem dX11_set_0 : decode cX11_set 0 = .ok (.aload_n 0, 1) := by decide +kernel
theorem dX11_set_1 : decode cX11_set 1 = .ok (.aload_n 0, 1) := by decide +kernel
theorem dX11_set_2 : decode cX11_set 2 = .ok (.getfield 203, 3) := by decide +kernel
theorem dX11_set_5 : decode cX11_set 5 = .ok (.iload_n 1, 1) := by decide +kernel
theorem dX11_set_6 : decode cX11_set 6 = .ok (.lload_n 2, 1) := by decide +kernel
theorem dX11_set_7 : decode cX11_set 7 = .ok (.invokevirtual 220, 3) := by decide +kernel
theorem dX11_set_10 : decode cX11_set 10 = .ok (.return_, 1) := by decide +kernel
theorem dX11_has_0 : decode cX11_has 0 = .ok (.lload_n 1, 1) := by decide +kernel
theorem dX11_has_1 : decode cX11_has 1 = .ok (.invokestatic 224, 3) := by decide +kernel
theorem dX11_has_4 : decode cX11_has 4 = .ok (.ifCond .ne 5, 3) := by decide +kernel
theorem dX11_has_7 : decode cX11_has 7 = .ok (.iconst 0, 1) := by decide +kernel
theorem dX11_has_8 : decode cX11_has 8 = .ok (.ireturn, 1) := by decide +kernel
theorem dX11_has_9 : decode cX11_has 9 = .ok (.lload_n 1, 1) := by decide +kernel
theorem dX11_has_10 : decode cX11_has 10 = .ok (.ldc2_w 215, 3) := by decide +kernel
theorem dX11_has_13 : decode cX11_has 13 = .ok (.lsub, 1) := by decide +kernel
theorem dX11_has_14 : decode cX11_has 14 = .ok (.l2i, 1) := by decide +kernel
theorem dX11_has_15 : decode cX11_has 15 = .ok (.istore 5, 2) := by decide +kernel
theorem dX11_has_17 : decode cX11_has 17 = .ok (.aload_n 0, 1) := by decide +kernel
theorem dX11_has_18 : decode cX11_has 18 = .ok (.getfield 57, 3) := by decide +kernel
theorem dX11_has_21 : decode cX11_has 21 = .ok (.iload 5, 2) := by decide +kernel
theorem dX11_has_23 : decode cX11_has 23 = .ok (.iaload, 1) := by decide +kernel
theorem dX11_has_24 : decode cX11_has 24 = .ok (.iload_n 3, 1) := by decide +kernel
theorem dX11_has_25 : decode cX11_has 25 = .ok (.if_icmp .ne 25, 3) := by decide +kernel
theorem dX11_has_28 : decode cX11_has 28 = .ok (.iload 4, 2) := by decide +kernel
theorem dX11_has_30 : decode cX11_has 30 = .ok (.iconst (-1), 1) := by decide +kernel
theorem dX11_has_31 : decode cX11_has 31 = .ok (.if_icmp .eq 15, 3) := by decide +kernel
theorem dX11_has_34 : decode cX11_has 34 = .ok (.aload_n 0, 1) := by decide +kernel
theorem dX11_has_35 : decode cX11_has 35 = .ok (.getfield 60, 3) := by decide +kernel
theorem dX11_has_38 : decode cX11_has 38 = .ok (.iload 5, 2) := by decide +kernel
theorem dX11_has_40 : decode cX11_has 40 = .ok (.iaload, 1) := by decide +kernel
theorem dX11_has_41 : decode cX11_has 41 = .ok (.iload 4, 2) := by decide +kernel
theorem dX11_has_43 : decode cX11_has 43 = .ok (.if_icmp .ne 7, 3) := by decide +kernel
theorem dX11_has_46 : decode cX11_has 46 = .ok (.iconst 1, 1) := by decide +kernel
theorem dX11_has_47 : decode cX11_has 47 = .ok (.goto 4, 3) := by decide +kernel
theorem dX11_has_50 : decode cX11_has 50 = .ok (.iconst 0, 1) := by decide +kernel
theorem dX11_has_51 : decode cX11_has 51 = .ok (.ireturn, 1) := by decide +kernel
theorem dX11_compare_0 : decode cX11_compare 0 = .ok (.iconst 1, 1) := by decide +kernel
theorem dX11_compare_1 : decode cX11_compare 1 = .ok (.istore 5, 2) := by decide +kernel
theorem dX11_compare_3 : decode cX11_compare 3 = .ok (.iconst 0, 1) := by decide +kernel
theorem dX11_compare_4 : decode cX11_compare 4 = .ok (.istore 6, 2) := by decide +kernel
theorem dX11_compare_6 : decode cX11_compare 6 = .ok (.aload_n 0, 1) := by decide +kernel
theorem dX11_compare_7 : decode cX11_compare 7 = .ok (.getfield 123, 3) := by decide +kernel
theorem dX11_compare_10 : decode cX11_compare 10 = .ok (.iconst 0, 1) := by decide +kernel
theorem dX11_compare_11 : decode cX11_compare 11 = .ok (.lload_n 1, 1) := by decide +kernel
theorem dX11_compare_12 : decode cX11_compare 12 = .ok (.lastore, 1) := by decide +kernel
theorem dX11_compare_13 : decode cX11_compare 13 = .ok (.aload_n 0, 1) := by decide +kernel
theorem dX11_compare_14 : decode cX11_compare 14 = .ok (.getfield 126, 3) := by decide +kernel
theorem dX11_compare_17 : decode cX11_compare 17 = .ok (.iconst 0, 1) := by decide +kernel
theorem dX11_compare_18 : decode cX11_compare 18 = .ok (.lload_n 3, 1) := by decide +kernel
theorem dX11_compare_19 : decode cX11_compare 19 = .ok (.lastore, 1) := by decide +kernel
theorem dX11_compare_20 : decode cX11_compare 20 = .ok (.iload 5, 2) := by decide +kernel
theorem dX11_compare_22 : decode cX11_compare 22 = .ok (.ifCond .le 189, 3) := by decide +kernel
theorem dX11_compare_25 : decode cX11_compare 25 = .ok (.iload 6, 2) := by decide +kernel
theorem dX11_compare_27 : decode cX11_compare 27 = .ok (.sipush 5000, 3) := by decide +kernel
theorem dX11_compare_30 : decode cX11_compare 30 = .ok (.if_icmp .ne 5, 3) := by decide +kernel
theorem dX11_compare_33 : decode cX11_compare 33 = .ok (.iconst 2, 1) := by decide +kernel
theorem dX11_compare_34 : decode cX11_compare 34 = .ok (.ireturn, 1) := by decide +kernel
theorem dX11_compare_35 : decode cX11_compare 35 = .ok (.iinc 6 1, 3) := by decide +kernel
theorem dX11_compare_38 : decode cX11_compare 38 = .ok (.iinc 5 (-1), 3) := by decide +kernel
theorem dX11_compare_41 : decode cX11_compare 41 = .ok (.aload_n 0, 1) := by decide +kernel
theorem dX11_compare_42 : decode cX11_compare 42 = .ok (.getfield 123, 3) := by decide +kernel
theorem dX11_compare_45 : decode cX11_compare 45 = .ok (.iload 5, 2) := by decide +kernel
theorem dX11_compare_47 : decode cX11_compare 47 = .ok (.laload, 1) := by decide +kernel
theorem dX11_compare_48 : decode cX11_compare 48 = .ok (.lstore 7, 2) := by decide +kernel
theorem dX11_compare_50 : decode cX11_compare 50 = .ok (.aload_n 0, 1) := by decide +kernel
theorem dX11_compare_51 : decode cX11_compare 51 = .ok (.getfield 126, 3) := by decide +kernel
theorem dX11_compare_54 : decode cX11_compare 54 = .ok (.iload 5, 2) := by decide +kernel
theorem dX11_compare_56 : decode cX11_compare 56 = .ok (.laload, 1) := by decide +kernel
theorem dX11_compare_57 : decode cX11_compare 57 = .ok (.lstore 9, 2) := by decide +kernel
theorem dX11_compare_59 : decode cX11_compare 59 = .ok (.lload 7, 2) := by decide +kernel
theorem dX11_compare_61 : decode cX11_compare 61 = .ok (.invokestatic 224, 3) := by decide +kernel
theorem dX11_compare_64 : decode cX11_compare 64 = .ok (.ifCond .eq 11, 3) := by decide +kernel
theorem dX11_compare_67 : decode cX11_compare 67 = .ok (.lload 9, 2) := by decide +kernel
theorem dX11_compare_69 : decode cX11_compare 69 = .ok (.invokestatic 224, 3) := by decide +kernel
theorem dX11_compare_72 : decode cX11_compare 72 = .ok (.ifCond .ne 13, 3) := by decide +kernel
theorem dX11_compare_75 : decode cX11_compare 75 = .ok (.lload 7, 2) := by decide +kernel
theorem dX11_compare_77 : decode cX11_compare 77 = .ok (.lload 9, 2) := by decide +kernel
theorem dX11_compare_79 : decode cX11_compare 79 = .ok (.lcmp, 1) := by decide +kernel
theorem dX11_compare_80 : decode cX11_compare 80 = .ok (.ifCond .eq (-60), 3) := by decide +kernel
theorem dX11_compare_83 : decode cX11_compare 83 = .ok (.iconst 1, 1) := by decide +kernel
theorem dX11_compare_84 : decode cX11_compare 84 = .ok (.ireturn, 1) := by decide +kernel
theorem dX11_compare_85 : decode cX11_compare 85 = .ok (.lload 7, 2) := by decide +kernel
theorem dX11_compare_87 : decode cX11_compare 87 = .ok (.ldc2_w 215, 3) := by decide +kernel
theorem dX11_compare_90 : decode cX11_compare 90 = .ok (.lsub, 1) := by decide +kernel
theorem dX11_compare_91 : decode cX11_compare 91 = .ok (.l2i, 1) := by decide +kernel
theorem dX11_compare_92 : decode cX11_compare 92 = .ok (.istore 11, 2) := by decide +kernel
theorem dX11_compare_94 : decode cX11_compare 94 = .ok (.lload 9, 2) := by decide +kernel
theorem dX11_compare_96 : decode cX11_compare 96 = .ok (.ldc2_w 215, 3) := by decide +kernel
theorem dX11_compare_99 : decode cX11_compare 99 = .ok (.lsub, 1) := by decide +kernel
theorem dX11_compare_100 : decode cX11_compare 100 = .ok (.l2i, 1) := by decide +kernel
theorem dX11_compare_101 : decode cX11_compare 101 = .ok (.istore 12, 2) := by decide +kernel
theorem dX11_compare_103 : decode cX11_compare 103 = .ok (.aload_n 0, 1) := by decide +kernel
theorem dX11_compare_104 : decode cX11_compare 104 = .ok (.getfield 57, 3) := by decide +kernel
theorem dX11_compare_107 : decode cX11_compare 107 = .ok (.iload 11, 2) := by decide +kernel
theorem dX11_compare_109 : decode cX11_compare 109 = .ok (.iaload, 1) := by decide +kernel
theorem dX11_compare_110 : decode cX11_compare 110 = .ok (.aload_n 0, 1) := by decide +kernel
theorem dX11_compare_111 : decode cX11_compare 111 = .ok (.getfield 57, 3) := by decide +kernel
theorem dX11_compare_114 : decode cX11_compare 114 = .ok (.iload 12, 2) := by decide +kernel
theorem dX11_compare_116 : decode cX11_compare 116 = .ok (.iaload, 1) := by decide +kernel
theorem dX11_compare_117 : decode cX11_compare 117 = .ok (.if_icmp .ne 20, 3) := by decide +kernel
theorem dX11_compare_120 : decode cX11_compare 120 = .ok (.aload_n 0, 1) := by decide +kernel
theorem dX11_compare_121 : decode cX11_compare 121 = .ok (.getfield 60, 3) := by decide +kernel
theorem dX11_compare_124 : decode cX11_compare 124 = .ok (.iload 11, 2) := by decide +kernel
theorem dX11_compare_126 : decode cX11_compare 126 = .ok (.iaload, 1) := by decide +kernel
theorem dX11_compare_127 : decode cX11_compare 127 = .ok (.aload_n 0, 1) := by decide +kernel
theorem dX11_compare_128 : decode cX11_compare 128 = .ok (.getfield 60, 3) := by decide +kernel
theorem dX11_compare_131 : decode cX11_compare 131 = .ok (.iload 12, 2) := by decide +kernel
theorem dX11_compare_133 : decode cX11_compare 133 = .ok (.iaload, 1) := by decide +kernel
theorem dX11_compare_134 : decode cX11_compare 134 = .ok (.if_icmp .eq 5, 3) := by decide +kernel
theorem dX11_compare_137 : decode cX11_compare 137 = .ok (.iconst 1, 1) := by decide +kernel
theorem dX11_compare_138 : decode cX11_compare 138 = .ok (.ireturn, 1) := by decide +kernel
theorem dX11_compare_139 : decode cX11_compare 139 = .ok (.aload_n 0, 1) := by decide +kernel
theorem dX11_compare_140 : decode cX11_compare 140 = .ok (.getfield 60, 3) := by decide +kernel
theorem dX11_compare_143 : decode cX11_compare 143 = .ok (.iload 11, 2) := by decide +kernel
theorem dX11_compare_145 : decode cX11_compare 145 = .ok (.iaload, 1) := by decide +kernel
theorem dX11_compare_146 : decode cX11_compare 146 = .ok (.iconst 1, 1) := by decide +kernel
theorem dX11_compare_147 : decode cX11_compare 147 = .ok (.isub, 1) := by decide +kernel
theorem dX11_compare_148 : decode cX11_compare 148 = .ok (.istore 13, 2) := by decide +kernel
theorem dX11_compare_150 : decode cX11_compare 150 = .ok (.iload 13, 2) := by decide +kernel
theorem dX11_compare_152 : decode cX11_compare 152 = .ok (.ifCond .lt 56, 3) := by decide +kernel
theorem dX11_compare_155 : decode cX11_compare 155 = .ok (.aload_n 0, 1) := by decide +kernel
theorem dX11_compare_156 : decode cX11_compare 156 = .ok (.getfield 123, 3) := by decide +kernel
theorem dX11_compare_159 : decode cX11_compare 159 = .ok (.iload 5, 2) := by decide +kernel
theorem dX11_compare_161 : decode cX11_compare 161 = .ok (.aload_n 0, 1) := by decide +kernel
theorem dX11_compare_162 : decode cX11_compare 162 = .ok (.getfield 66, 3) := by decide +kernel
theorem dX11_compare_165 : decode cX11_compare 165 = .ok (.aload_n 0, 1) := by decide +kernel
theorem dX11_compare_166 : decode cX11_compare 166 = .ok (.getfield 63, 3) := by decide +kernel
theorem dX11_compare_169 : decode cX11_compare 169 = .ok (.iload 11, 2) := by decide +kernel
theorem dX11_compare_171 : decode cX11_compare 171 = .ok (.iaload, 1) := by decide +kernel
theorem dX11_compare_172 : decode cX11_compare 172 = .ok (.iload 13, 2) := by decide +kernel
theorem dX11_compare_174 : decode cX11_compare 174 = .ok (.iadd, 1) := by decide +kernel
theorem dX11_compare_175 : decode cX11_compare 175 = .ok (.laload, 1) := by decide +kernel
theorem dX11_compare_176 : decode cX11_compare 176 = .ok (.lastore, 1) := by decide +kernel
theorem dX11_compare_177 : decode cX11_compare 177 = .ok (.aload_n 0, 1) := by decide +kernel
theorem dX11_compare_178 : decode cX11_compare 178 = .ok (.getfield 126, 3) := by decide +kernel
theorem dX11_compare_181 : decode cX11_compare 181 = .ok (.iload 5, 2) := by decide +kernel
theorem dX11_compare_183 : decode cX11_compare 183 = .ok (.aload_n 0, 1) := by decide +kernel
theorem dX11_compare_184 : decode cX11_compare 184 = .ok (.getfield 66, 3) := by decide +kernel
theorem dX11_compare_187 : decode cX11_compare 187 = .ok (.aload_n 0, 1) := by decide +kernel
theorem dX11_compare_188 : decode cX11_compare 188 = .ok (.getfield 63, 3) := by decide +kernel
theorem dX11_compare_191 : decode cX11_compare 191 = .ok (.iload 12, 2) := by decide +kernel
theorem dX11_compare_193 : decode cX11_compare 193 = .ok (.iaload, 1) := by decide +kernel
theorem dX11_compare_194 : decode cX11_compare 194 = .ok (.iload 13, 2) := by decide +kernel
theorem dX11_compare_196 : decode cX11_compare 196 = .ok (.iadd, 1) := by decide +kernel
theorem dX11_compare_197 : decode cX11_compare 197 = .ok (.laload, 1) := by decide +kernel
theorem dX11_compare_198 : decode cX11_compare 198 = .ok (.lastore, 1) := by decide +kernel
theorem dX11_compare_199 : decode cX11_compare 199 = .ok (.iinc 5 1, 3) := by decide +kernel
theorem dX11_compare_202 : decode cX11_compare 202 = .ok (.iinc 13 (-1), 3) := by decide +kernel
theorem dX11_compare_205 : decode cX11_compare 205 = .ok (.goto (-55), 3) := by decide +kernel
theorem dX11_compare_208 : decode cX11_compare 208 = .ok (.goto (-188), 3) := by decide +kernel
theorem dX11_compare_211 : decode cX11_compare 211 = .ok (.iconst 0, 1) := by decide +kernel
theorem dX11_compare_212 : decode cX11_compare 212 = .ok (.ireturn, 1) := by decide +kernel
theorem dX11_makeCell_0 : decode cX11_makeCell 0 = .ok (.aload_n 0, 1) := by decide +kernel
theorem dX11_makeCell_1 : decode cX11_makeCell 1 = .ok (.getfield 51, 3) := by decide +kernel
theorem dX11_makeCell_4 : decode cX11_makeCell 4 = .ok (.iload_n 1, 1) := by decide +kernel
theorem dX11_makeCell_5 : decode cX11_makeCell 5 = .ok (.iaload, 1) := by decide +kernel
theorem dX11_makeCell_6 : decode cX11_makeCell 6 = .ok (.istore_n 2, 1) := by decide +kernel
theorem dX11_makeCell_7 : decode cX11_makeCell 7 = .ok (.iload_n 2, 1) := by decide +kernel
theorem dX11_makeCell_8 : decode cX11_makeCell 8 = .ok (.ifCond .ne 7, 3) := by decide +kernel
theorem dX11_makeCell_11 : decode cX11_makeCell 11 = .ok (.iconst 0, 1) := by decide +kernel
theorem dX11_makeCell_12 : decode cX11_makeCell 12 = .ok (.goto 6, 3) := by decide +kernel
theorem dX11_makeCell_15 : decode cX11_makeCell 15 = .ok (.iload_n 2, 1) := by decide +kernel
theorem dX11_makeCell_16 : decode cX11_makeCell 16 = .ok (.iconst 1, 1) := by decide +kernel
theorem dX11_makeCell_17 : decode cX11_makeCell 17 = .ok (.iadd, 1) := by decide +kernel
theorem dX11_makeCell_18 : decode cX11_makeCell 18 = .ok (.istore_n 3, 1) := by decide +kernel
theorem dX11_makeCell_19 : decode cX11_makeCell 19 = .ok (.aload_n 0, 1) := by decide +kernel
theorem dX11_makeCell_20 : decode cX11_makeCell 20 = .ok (.getfield 228, 3) := by decide +kernel
theorem dX11_makeCell_23 : decode cX11_makeCell 23 = .ok (.iload_n 3, 1) := by decide +kernel
theorem dX11_makeCell_24 : decode cX11_makeCell 24 = .ok (.iadd, 1) := by decide +kernel
theorem dX11_makeCell_25 : decode cX11_makeCell 25 = .ok (.aload_n 0, 1) := by decide +kernel
theorem dX11_makeCell_26 : decode cX11_makeCell 26 = .ok (.getfield 231, 3) := by decide +kernel
theorem dX11_makeCell_29 : decode cX11_makeCell 29 = .ok (.if_icmp .le 9, 3) := by decide +kernel
theorem dX11_makeCell_32 : decode cX11_makeCell 32 = .ok (.aload_n 0, 1) := by decide +kernel
theorem dX11_makeCell_33 : decode cX11_makeCell 33 = .ok (.iconst 5, 1) := by decide +kernel
theorem dX11_makeCell_34 : decode cX11_makeCell 34 = .ok (.putfield 116, 3) := by decide +kernel
theorem dX11_makeCell_37 : decode cX11_makeCell 37 = .ok (.return_, 1) := by decide +kernel
theorem dX11_makeCell_38 : decode cX11_makeCell 38 = .ok (.aload_n 0, 1) := by decide +kernel
theorem dX11_makeCell_39 : decode cX11_makeCell 39 = .ok (.getfield 234, 3) := by decide +kernel
theorem dX11_makeCell_42 : decode cX11_makeCell 42 = .ok (.istore 4, 2) := by decide +kernel
theorem dX11_makeCell_44 : decode cX11_makeCell 44 = .ok (.aload_n 0, 1) := by decide +kernel
theorem dX11_makeCell_45 : decode cX11_makeCell 45 = .ok (.dup, 1) := by decide +kernel
theorem dX11_makeCell_46 : decode cX11_makeCell 46 = .ok (.getfield 234, 3) := by decide +kernel
theorem dX11_makeCell_49 : decode cX11_makeCell 49 = .ok (.iconst 1, 1) := by decide +kernel
theorem dX11_makeCell_50 : decode cX11_makeCell 50 = .ok (.iadd, 1) := by decide +kernel
theorem dX11_makeCell_51 : decode cX11_makeCell 51 = .ok (.putfield 234, 3) := by decide +kernel
theorem dX11_makeCell_54 : decode cX11_makeCell 54 = .ok (.aload_n 0, 1) := by decide +kernel
theorem dX11_makeCell_55 : decode cX11_makeCell 55 = .ok (.getfield 57, 3) := by decide +kernel
theorem dX11_makeCell_58 : decode cX11_makeCell 58 = .ok (.iload 4, 2) := by decide +kernel
theorem dX11_makeCell_60 : decode cX11_makeCell 60 = .ok (.aload_n 0, 1) := by decide +kernel
theorem dX11_makeCell_61 : decode cX11_makeCell 61 = .ok (.getfield 42, 3) := by decide +kernel
theorem dX11_makeCell_64 : decode cX11_makeCell 64 = .ok (.iload_n 1, 1) := by decide +kernel
theorem dX11_makeCell_65 : decode cX11_makeCell 65 = .ok (.iaload, 1) := by decide +kernel
theorem dX11_makeCell_66 : decode cX11_makeCell 66 = .ok (.iastore, 1) := by decide +kernel
theorem dX11_makeCell_67 : decode cX11_makeCell 67 = .ok (.aload_n 0, 1) := by decide +kernel
theorem dX11_makeCell_68 : decode cX11_makeCell 68 = .ok (.getfield 60, 3) := by decide +kernel
theorem dX11_makeCell_71 : decode cX11_makeCell 71 = .ok (.iload 4, 2) := by decide +kernel
theorem dX11_makeCell_73 : decode cX11_makeCell 73 = .ok (.iload_n 2, 1) := by decide +kernel
theorem dX11_makeCell_74 : decode cX11_makeCell 74 = .ok (.iastore, 1) := by decide +kernel
theorem dX11_makeCell_75 : decode cX11_makeCell 75 = .ok (.aload_n 0, 1) := by decide +kernel
theorem dX11_makeCell_76 : decode cX11_makeCell 76 = .ok (.getfield 63, 3) := by decide +kernel
theorem dX11_makeCell_79 : decode cX11_makeCell 79 = .ok (.iload 4, 2) := by decide +kernel
theorem dX11_makeCell_81 : decode cX11_makeCell 81 = .ok (.aload_n 0, 1) := by decide +kernel
theorem dX11_makeCell_82 : decode cX11_makeCell 82 = .ok (.getfield 237, 3) := by decide +kernel
theorem dX11_makeCell_85 : decode cX11_makeCell 85 = .ok (.iastore, 1) := by decide +kernel
theorem dX11_makeCell_86 : decode cX11_makeCell 86 = .ok (.iconst 0, 1) := by decide +kernel
theorem dX11_makeCell_87 : decode cX11_makeCell 87 = .ok (.istore 5, 2) := by decide +kernel
theorem dX11_makeCell_89 : decode cX11_makeCell 89 = .ok (.iload 5, 2) := by decide +kernel
theorem dX11_makeCell_91 : decode cX11_makeCell 91 = .ok (.iload_n 2, 1) := by decide +kernel
theorem dX11_makeCell_92 : decode cX11_makeCell 92 = .ok (.if_icmp .ge 37, 3) := by decide +kernel
theorem dX11_makeCell_95 : decode cX11_makeCell 95 = .ok (.aload_n 0, 1) := by decide +kernel
theorem dX11_makeCell_96 : decode cX11_makeCell 96 = .ok (.getfield 66, 3) := by decide +kernel
theorem dX11_makeCell_99 : decode cX11_makeCell 99 = .ok (.aload_n 0, 1) := by decide +kernel
theorem dX11_makeCell_100 : decode cX11_makeCell 100 = .ok (.getfield 237, 3) := by decide +kernel
theorem dX11_makeCell_103 : decode cX11_makeCell 103 = .ok (.iload 5, 2) := by decide +kernel
theorem dX11_makeCell_105 : decode cX11_makeCell 105 = .ok (.iadd, 1) := by decide +kernel
theorem dX11_makeCell_106 : decode cX11_makeCell 106 = .ok (.aload_n 0, 1) := by decide +kernel
theorem dX11_makeCell_107 : decode cX11_makeCell 107 = .ok (.aload_n 0, 1) := by decide +kernel
theorem dX11_makeCell_108 : decode cX11_makeCell 108 = .ok (.getfield 54, 3) := by decide +kernel
theorem dX11_makeCell_111 : decode cX11_makeCell 111 = .ok (.bipush 10, 2) := by decide +kernel
theorem dX11_makeCell_113 : decode cX11_makeCell 113 = .ok (.iload_n 1, 1) := by decide +kernel
theorem dX11_makeCell_114 : decode cX11_makeCell 114 = .ok (.imul, 1) := by decide +kernel
theorem dX11_makeCell_115 : decode cX11_makeCell 115 = .ok (.iload 5, 2) := by decide +kernel
theorem dX11_makeCell_117 : decode cX11_makeCell 117 = .ok (.iadd, 1) := by decide +kernel
theorem dX11_makeCell_118 : decode cX11_makeCell 118 = .ok (.iaload, 1) := by decide +kernel
theorem dX11_makeCell_119 : decode cX11_makeCell 119 = .ok (.invokevirtual 240, 3) := by decide +kernel
theorem dX11_makeCell_122 : decode cX11_makeCell 122 = .ok (.lastore, 1) := by decide +kernel
theorem dX11_makeCell_123 : decode cX11_makeCell 123 = .ok (.iinc 5 1, 3) := by decide +kernel
theorem dX11_makeCell_126 : decode cX11_makeCell 126 = .ok (.goto (-37), 3) := by decide +kernel
theorem dX11_makeCell_129 : decode cX11_makeCell 129 = .ok (.aload_n 0, 1) := by decide +kernel
theorem dX11_makeCell_130 : decode cX11_makeCell 130 = .ok (.dup, 1) := by decide +kernel
theorem dX11_makeCell_131 : decode cX11_makeCell 131 = .ok (.getfield 237, 3) := by decide +kernel
theorem dX11_makeCell_134 : decode cX11_makeCell 134 = .ok (.iload_n 2, 1) := by decide +kernel
end
section
theorem dX11_makeCell_135 : decode cX11_makeCell 135 = .ok (.iadd, 1) := by decide +kernel
theorem dX11_makeCell_136 : decode cX11_makeCell 136 = .ok (.putfield 237, 3) := by decide +kernel
theorem dX11_makeCell_139 : decode cX11_makeCell 139 = .ok (.aload_n 0, 1) := by decide +kernel
theorem dX11_makeCell_140 : decode cX11_makeCell 140 = .ok (.dup, 1) := by decide +kernel
theorem dX11_makeCell_141 : decode cX11_makeCell 141 = .ok (.getfield 228, 3) := by decide +kernel
theorem dX11_makeCell_144 : decode cX11_makeCell 144 = .ok (.iload_n 3, 1) := by decide +kernel
theorem dX11_makeCell_145 : decode cX11_makeCell 145 = .ok (.iadd, 1) := by decide +kernel
theorem dX11_makeCell_146 : decode cX11_makeCell 146 = .ok (.putfield 228, 3) := by decide +kernel
theorem dX11_makeCell_149 : decode cX11_makeCell 149 = .ok (.aload_n 0, 1) := by decide +kernel
theorem dX11_makeCell_150 : decode cX11_makeCell 150 = .ok (.aload_n 0, 1) := by decide +kernel
theorem dX11_makeCell_151 : decode cX11_makeCell 151 = .ok (.getfield 228, 3) := by decide +kernel
theorem dX11_makeCell_154 : decode cX11_makeCell 154 = .ok (.aload_n 0, 1) := by decide +kernel
theorem dX11_makeCell_155 : decode cX11_makeCell 155 = .ok (.getfield 244, 3) := by decide +kernel
theorem dX11_makeCell_158 : decode cX11_makeCell 158 = .ok (.if_icmp .le 10, 3) := by decide +kernel
theorem dX11_makeCell_161 : decode cX11_makeCell 161 = .ok (.aload_n 0, 1) := by decide +kernel
theorem dX11_makeCell_162 : decode cX11_makeCell 162 = .ok (.getfield 228, 3) := by decide +kernel
theorem dX11_makeCell_165 : decode cX11_makeCell 165 = .ok (.goto 7, 3) := by decide +kernel
theorem dX11_makeCell_168 : decode cX11_makeCell 168 = .ok (.aload_n 0, 1) := by decide +kernel
theorem dX11_makeCell_169 : decode cX11_makeCell 169 = .ok (.getfield 244, 3) := by decide +kernel
theorem dX11_makeCell_172 : decode cX11_makeCell 172 = .ok (.putfield 244, 3) := by decide +kernel
theorem dX11_makeCell_175 : decode cX11_makeCell 175 = .ok (.aload_n 0, 1) := by decide +kernel
theorem dX11_makeCell_176 : decode cX11_makeCell 176 = .ok (.aload_n 0, 1) := by decide +kernel
theorem dX11_makeCell_177 : decode cX11_makeCell 177 = .ok (.getfield 39, 3) := by decide +kernel
theorem dX11_makeCell_180 : decode cX11_makeCell 180 = .ok (.iload_n 1, 1) := by decide +kernel
theorem dX11_makeCell_181 : decode cX11_makeCell 181 = .ok (.iaload, 1) := by decide +kernel
theorem dX11_makeCell_182 : decode cX11_makeCell 182 = .ok (.ldc2_w 215, 3) := by decide +kernel
theorem dX11_makeCell_185 : decode cX11_makeCell 185 = .ok (.iload 4, 2) := by decide +kernel
theorem dX11_makeCell_187 : decode cX11_makeCell 187 = .ok (.i2l, 1) := by decide +kernel
theorem dX11_makeCell_188 : decode cX11_makeCell 188 = .ok (.ladd, 1) := by decide +kernel
theorem dX11_makeCell_189 : decode cX11_makeCell 189 = .ok (.invokevirtual 247, 3) := by decide +kernel
theorem dX11_makeCell_192 : decode cX11_makeCell 192 = .ok (.return_, 1) := by decide +kernel
theorem dX11_takeCell_0 : decode cX11_takeCell 0 = .ok (.aload_n 0, 1) := by decide +kernel
theorem dX11_takeCell_1 : decode cX11_takeCell 1 = .ok (.aload_n 0, 1) := by decide +kernel
theorem dX11_takeCell_2 : decode cX11_takeCell 2 = .ok (.getfield 39, 3) := by decide +kernel
theorem dX11_takeCell_5 : decode cX11_takeCell 5 = .ok (.iload_n 1, 1) := by decide +kernel
theorem dX11_takeCell_6 : decode cX11_takeCell 6 = .ok (.iaload, 1) := by decide +kernel
theorem dX11_takeCell_7 : decode cX11_takeCell 7 = .ok (.invokevirtual 240, 3) := by decide +kernel
theorem dX11_takeCell_10 : decode cX11_takeCell 10 = .ok (.lstore_n 2, 1) := by decide +kernel
theorem dX11_takeCell_11 : decode cX11_takeCell 11 = .ok (.aload_n 0, 1) := by decide +kernel
theorem dX11_takeCell_12 : decode cX11_takeCell 12 = .ok (.lload_n 2, 1) := by decide +kernel
theorem dX11_takeCell_13 : decode cX11_takeCell 13 = .ok (.aload_n 0, 1) := by decide +kernel
theorem dX11_takeCell_14 : decode cX11_takeCell 14 = .ok (.getfield 42, 3) := by decide +kernel
theorem dX11_takeCell_17 : decode cX11_takeCell 17 = .ok (.iload_n 1, 1) := by decide +kernel
theorem dX11_takeCell_18 : decode cX11_takeCell 18 = .ok (.iaload, 1) := by decide +kernel
theorem dX11_takeCell_19 : decode cX11_takeCell 19 = .ok (.aload_n 0, 1) := by decide +kernel
theorem dX11_takeCell_20 : decode cX11_takeCell 20 = .ok (.getfield 51, 3) := by decide +kernel
theorem dX11_takeCell_23 : decode cX11_takeCell 23 = .ok (.iload_n 1, 1) := by decide +kernel
theorem dX11_takeCell_24 : decode cX11_takeCell 24 = .ok (.iaload, 1) := by decide +kernel
theorem dX11_takeCell_25 : decode cX11_takeCell 25 = .ok (.invokevirtual 251, 3) := by decide +kernel
theorem dX11_takeCell_28 : decode cX11_takeCell 28 = .ok (.ifCond .ne 8, 3) := by decide +kernel
theorem dX11_takeCell_31 : decode cX11_takeCell 31 = .ok (.aload_n 0, 1) := by decide +kernel
theorem dX11_takeCell_32 : decode cX11_takeCell 32 = .ok (.invokevirtual 255, 3) := by decide +kernel
theorem dX11_takeCell_35 : decode cX11_takeCell 35 = .ok (.return_, 1) := by decide +kernel
theorem dX11_takeCell_36 : decode cX11_takeCell 36 = .ok (.lload_n 2, 1) := by decide +kernel
theorem dX11_takeCell_37 : decode cX11_takeCell 37 = .ok (.ldc2_w 215, 3) := by decide +kernel
theorem dX11_takeCell_40 : decode cX11_takeCell 40 = .ok (.lsub, 1) := by decide +kernel
theorem dX11_takeCell_41 : decode cX11_takeCell 41 = .ok (.l2i, 1) := by decide +kernel
theorem dX11_takeCell_42 : decode cX11_takeCell 42 = .ok (.istore 4, 2) := by decide +kernel
theorem dX11_takeCell_44 : decode cX11_takeCell 44 = .ok (.iconst 0, 1) := by decide +kernel
theorem dX11_takeCell_45 : decode cX11_takeCell 45 = .ok (.istore 5, 2) := by decide +kernel
theorem dX11_takeCell_47 : decode cX11_takeCell 47 = .ok (.iload 5, 2) := by decide +kernel
theorem dX11_takeCell_49 : decode cX11_takeCell 49 = .ok (.aload_n 0, 1) := by decide +kernel
theorem dX11_takeCell_50 : decode cX11_takeCell 50 = .ok (.getfield 51, 3) := by decide +kernel
theorem dX11_takeCell_53 : decode cX11_takeCell 53 = .ok (.iload_n 1, 1) := by decide +kernel
theorem dX11_takeCell_54 : decode cX11_takeCell 54 = .ok (.iaload, 1) := by decide +kernel
theorem dX11_takeCell_55 : decode cX11_takeCell 55 = .ok (.if_icmp .ge 40, 3) := by decide +kernel
theorem dX11_takeCell_58 : decode cX11_takeCell 58 = .ok (.aload_n 0, 1) := by decide +kernel
theorem dX11_takeCell_59 : decode cX11_takeCell 59 = .ok (.aload_n 0, 1) := by decide +kernel
theorem dX11_takeCell_60 : decode cX11_takeCell 60 = .ok (.getfield 54, 3) := by decide +kernel
theorem dX11_takeCell_63 : decode cX11_takeCell 63 = .ok (.bipush 10, 2) := by decide +kernel
theorem dX11_takeCell_65 : decode cX11_takeCell 65 = .ok (.iload_n 1, 1) := by decide +kernel
theorem dX11_takeCell_66 : decode cX11_takeCell 66 = .ok (.imul, 1) := by decide +kernel
theorem dX11_takeCell_67 : decode cX11_takeCell 67 = .ok (.iload 5, 2) := by decide +kernel
theorem dX11_takeCell_69 : decode cX11_takeCell 69 = .ok (.iadd, 1) := by decide +kernel
theorem dX11_takeCell_70 : decode cX11_takeCell 70 = .ok (.iaload, 1) := by decide +kernel
theorem dX11_takeCell_71 : decode cX11_takeCell 71 = .ok (.aload_n 0, 1) := by decide +kernel
theorem dX11_takeCell_72 : decode cX11_takeCell 72 = .ok (.getfield 66, 3) := by decide +kernel
theorem dX11_takeCell_75 : decode cX11_takeCell 75 = .ok (.aload_n 0, 1) := by decide +kernel
theorem dX11_takeCell_76 : decode cX11_takeCell 76 = .ok (.getfield 63, 3) := by decide +kernel
theorem dX11_takeCell_79 : decode cX11_takeCell 79 = .ok (.iload 4, 2) := by decide +kernel
theorem dX11_takeCell_81 : decode cX11_takeCell 81 = .ok (.iaload, 1) := by decide +kernel
theorem dX11_takeCell_82 : decode cX11_takeCell 82 = .ok (.iload 5, 2) := by decide +kernel
theorem dX11_takeCell_84 : decode cX11_takeCell 84 = .ok (.iadd, 1) := by decide +kernel
theorem dX11_takeCell_85 : decode cX11_takeCell 85 = .ok (.laload, 1) := by decide +kernel
theorem dX11_takeCell_86 : decode cX11_takeCell 86 = .ok (.invokevirtual 247, 3) := by decide +kernel
theorem dX11_takeCell_89 : decode cX11_takeCell 89 = .ok (.iinc 5 1, 3) := by decide +kernel
theorem dX11_takeCell_92 : decode cX11_takeCell 92 = .ok (.goto (-45), 3) := by decide +kernel
theorem dX11_takeCell_95 : decode cX11_takeCell 95 = .ok (.return_, 1) := by decide +kernel
theorem dX11_fail_0 : decode cX11_fail 0 = .ok (.aload_n 0, 1) := by decide +kernel
theorem dX11_fail_1 : decode cX11_fail 1 = .ok (.invokevirtual 209, 3) := by decide +kernel
theorem dX11_fail_4 : decode cX11_fail 4 = .ok (.istore_n 1, 1) := by decide +kernel
theorem dX11_fail_5 : decode cX11_fail 5 = .ok (.iload_n 1, 1) := by decide +kernel
theorem dX11_fail_6 : decode cX11_fail 6 = .ok (.ifCond .ge 9, 3) := by decide +kernel
theorem dX11_fail_9 : decode cX11_fail 9 = .ok (.aload_n 0, 1) := by decide +kernel
theorem dX11_fail_10 : decode cX11_fail 10 = .ok (.iconst 2, 1) := by decide +kernel
theorem dX11_fail_11 : decode cX11_fail 11 = .ok (.putfield 116, 3) := by decide +kernel
theorem dX11_fail_14 : decode cX11_fail 14 = .ok (.return_, 1) := by decide +kernel
theorem dX11_fail_15 : decode cX11_fail 15 = .ok (.aload_n 0, 1) := by decide +kernel
theorem dX11_fail_16 : decode cX11_fail 16 = .ok (.getfield 91, 3) := by decide +kernel
theorem dX11_fail_19 : decode cX11_fail 19 = .ok (.iload_n 1, 1) := by decide +kernel
theorem dX11_fail_20 : decode cX11_fail 20 = .ok (.baload, 1) := by decide +kernel
theorem dX11_fail_21 : decode cX11_fail 21 = .ok (.istore_n 2, 1) := by decide +kernel
theorem dX11_fail_22 : decode cX11_fail 22 = .ok (.aload_n 0, 1) := by decide +kernel
theorem dX11_fail_23 : decode cX11_fail 23 = .ok (.getfield 82, 3) := by decide +kernel
theorem dX11_fail_26 : decode cX11_fail 26 = .ok (.iload_n 1, 1) := by decide +kernel
theorem dX11_fail_27 : decode cX11_fail 27 = .ok (.iaload, 1) := by decide +kernel
theorem dX11_fail_28 : decode cX11_fail 28 = .ok (.istore_n 3, 1) := by decide +kernel
theorem dX11_fail_29 : decode cX11_fail 29 = .ok (.aload_n 0, 1) := by decide +kernel
theorem dX11_fail_30 : decode cX11_fail 30 = .ok (.getfield 79, 3) := by decide +kernel
theorem dX11_fail_33 : decode cX11_fail 33 = .ok (.iload_n 1, 1) := by decide +kernel
theorem dX11_fail_34 : decode cX11_fail 34 = .ok (.iaload, 1) := by decide +kernel
theorem dX11_fail_35 : decode cX11_fail 35 = .ok (.istore 4, 2) := by decide +kernel
theorem dX11_fail_37 : decode cX11_fail 37 = .ok (.aload_n 0, 1) := by decide +kernel
theorem dX11_fail_38 : decode cX11_fail 38 = .ok (.iload_n 1, 1) := by decide +kernel
theorem dX11_fail_39 : decode cX11_fail 39 = .ok (.invokevirtual 212, 3) := by decide +kernel
theorem dX11_fail_42 : decode cX11_fail 42 = .ok (.iload_n 2, 1) := by decide +kernel
theorem dX11_fail_43 : decode cX11_fail 43 = .ok (.ifCond .eq 6, 3) := by decide +kernel
theorem dX11_fail_46 : decode cX11_fail 46 = .ok (.goto (-46), 3) := by decide +kernel
theorem dX11_fail_49 : decode cX11_fail 49 = .ok (.aload_n 0, 1) := by decide +kernel
theorem dX11_fail_50 : decode cX11_fail 50 = .ok (.getfield 217, 3) := by decide +kernel
theorem dX11_fail_53 : decode cX11_fail 53 = .ok (.aload_n 0, 1) := by decide +kernel
theorem dX11_fail_54 : decode cX11_fail 54 = .ok (.getfield 103, 3) := by decide +kernel
theorem dX11_fail_57 : decode cX11_fail 57 = .ok (.iload_n 1, 1) := by decide +kernel
theorem dX11_fail_58 : decode cX11_fail 58 = .ok (.iaload, 1) := by decide +kernel
theorem dX11_fail_59 : decode cX11_fail 59 = .ok (.if_icmp .le 39, 3) := by decide +kernel
theorem dX11_fail_62 : decode cX11_fail 62 = .ok (.aload_n 0, 1) := by decide +kernel
theorem dX11_fail_63 : decode cX11_fail 63 = .ok (.dup, 1) := by decide +kernel
theorem dX11_fail_64 : decode cX11_fail 64 = .ok (.getfield 217, 3) := by decide +kernel
theorem dX11_fail_67 : decode cX11_fail 67 = .ok (.iconst 1, 1) := by decide +kernel
theorem dX11_fail_68 : decode cX11_fail 68 = .ok (.isub, 1) := by decide +kernel
theorem dX11_fail_69 : decode cX11_fail 69 = .ok (.putfield 217, 3) := by decide +kernel
theorem dX11_fail_72 : decode cX11_fail 72 = .ok (.aload_n 0, 1) := by decide +kernel
theorem dX11_fail_73 : decode cX11_fail 73 = .ok (.getfield 106, 3) := by decide +kernel
theorem dX11_fail_76 : decode cX11_fail 76 = .ok (.aload_n 0, 1) := by decide +kernel
theorem dX11_fail_77 : decode cX11_fail 77 = .ok (.getfield 110, 3) := by decide +kernel
theorem dX11_fail_80 : decode cX11_fail 80 = .ok (.aload_n 0, 1) := by decide +kernel
theorem dX11_fail_81 : decode cX11_fail 81 = .ok (.getfield 217, 3) := by decide +kernel
theorem dX11_fail_84 : decode cX11_fail 84 = .ok (.iaload, 1) := by decide +kernel
theorem dX11_fail_85 : decode cX11_fail 85 = .ok (.aload_n 0, 1) := by decide +kernel
theorem dX11_fail_86 : decode cX11_fail 86 = .ok (.getfield 113, 3) := by decide +kernel
theorem dX11_fail_89 : decode cX11_fail 89 = .ok (.aload_n 0, 1) := by decide +kernel
theorem dX11_fail_90 : decode cX11_fail 90 = .ok (.getfield 217, 3) := by decide +kernel
theorem dX11_fail_93 : decode cX11_fail 93 = .ok (.laload, 1) := by decide +kernel
theorem dX11_fail_94 : decode cX11_fail 94 = .ok (.lastore, 1) := by decide +kernel
theorem dX11_fail_95 : decode cX11_fail 95 = .ok (.goto (-46), 3) := by decide +kernel
theorem dX11_fail_98 : decode cX11_fail 98 = .ok (.aload_n 0, 1) := by decide +kernel
theorem dX11_fail_99 : decode cX11_fail 99 = .ok (.aload_n 0, 1) := by decide +kernel
theorem dX11_fail_100 : decode cX11_fail 100 = .ok (.getfield 94, 3) := by decide +kernel
theorem dX11_fail_103 : decode cX11_fail 103 = .ok (.iload_n 1, 1) := by decide +kernel
theorem dX11_fail_104 : decode cX11_fail 104 = .ok (.iaload, 1) := by decide +kernel
theorem dX11_fail_105 : decode cX11_fail 105 = .ok (.putfield 228, 3) := by decide +kernel
theorem dX11_fail_108 : decode cX11_fail 108 = .ok (.aload_n 0, 1) := by decide +kernel
theorem dX11_fail_109 : decode cX11_fail 109 = .ok (.aload_n 0, 1) := by decide +kernel
theorem dX11_fail_110 : decode cX11_fail 110 = .ok (.getfield 97, 3) := by decide +kernel
theorem dX11_fail_113 : decode cX11_fail 113 = .ok (.iload_n 1, 1) := by decide +kernel
theorem dX11_fail_114 : decode cX11_fail 114 = .ok (.iaload, 1) := by decide +kernel
theorem dX11_fail_115 : decode cX11_fail 115 = .ok (.putfield 234, 3) := by decide +kernel
theorem dX11_fail_118 : decode cX11_fail 118 = .ok (.aload_n 0, 1) := by decide +kernel
theorem dX11_fail_119 : decode cX11_fail 119 = .ok (.aload_n 0, 1) := by decide +kernel
theorem dX11_fail_120 : decode cX11_fail 120 = .ok (.getfield 100, 3) := by decide +kernel
theorem dX11_fail_123 : decode cX11_fail 123 = .ok (.iload_n 1, 1) := by decide +kernel
theorem dX11_fail_124 : decode cX11_fail 124 = .ok (.iaload, 1) := by decide +kernel
theorem dX11_fail_125 : decode cX11_fail 125 = .ok (.putfield 237, 3) := by decide +kernel
theorem dX11_fail_128 : decode cX11_fail 128 = .ok (.aload_n 0, 1) := by decide +kernel
theorem dX11_fail_129 : decode cX11_fail 129 = .ok (.iload_n 3, 1) := by decide +kernel
theorem dX11_fail_130 : decode cX11_fail 130 = .ok (.putfield 203, 3) := by decide +kernel
theorem dX11_fail_133 : decode cX11_fail 133 = .ok (.aload_n 0, 1) := by decide +kernel
theorem dX11_fail_134 : decode cX11_fail 134 = .ok (.getfield 79, 3) := by decide +kernel
theorem dX11_fail_137 : decode cX11_fail 137 = .ok (.iload_n 3, 1) := by decide +kernel
theorem dX11_fail_138 : decode cX11_fail 138 = .ok (.iload 4, 2) := by decide +kernel
theorem dX11_fail_140 : decode cX11_fail 140 = .ok (.iastore, 1) := by decide +kernel
theorem dX11_fail_141 : decode cX11_fail 141 = .ok (.return_, 1) := by decide +kernel
theorem dX11_tryLater_0 : decode cX11_tryLater 0 = .ok (.aload_n 0, 1) := by decide +kernel
theorem dX11_tryLater_1 : decode cX11_tryLater 1 = .ok (.getfield 167, 3) := by decide +kernel
theorem dX11_tryLater_4 : decode cX11_tryLater 4 = .ok (.iconst 3, 1) := by decide +kernel
theorem dX11_tryLater_5 : decode cX11_tryLater 5 = .ok (.iadd, 1) := by decide +kernel
theorem dX11_tryLater_6 : decode cX11_tryLater 6 = .ok (.aload_n 0, 1) := by decide +kernel
theorem dX11_tryLater_7 : decode cX11_tryLater 7 = .ok (.getfield 258, 3) := by decide +kernel
theorem dX11_tryLater_10 : decode cX11_tryLater 10 = .ok (.if_icmp .le 9, 3) := by decide +kernel
theorem dX11_tryLater_13 : decode cX11_tryLater 13 = .ok (.aload_n 0, 1) := by decide +kernel
theorem dX11_tryLater_14 : decode cX11_tryLater 14 = .ok (.iconst 4, 1) := by decide +kernel
theorem dX11_tryLater_15 : decode cX11_tryLater 15 = .ok (.putfield 116, 3) := by decide +kernel
theorem dX11_tryLater_18 : decode cX11_tryLater 18 = .ok (.return_, 1) := by decide +kernel
theorem dX11_tryLater_19 : decode cX11_tryLater 19 = .ok (.aload_n 0, 1) := by decide +kernel
theorem dX11_tryLater_20 : decode cX11_tryLater 20 = .ok (.getfield 173, 3) := by decide +kernel
theorem dX11_tryLater_23 : decode cX11_tryLater 23 = .ok (.istore_n 2, 1) := by decide +kernel
theorem dX11_tryLater_24 : decode cX11_tryLater 24 = .ok (.aload_n 0, 1) := by decide +kernel
theorem dX11_tryLater_25 : decode cX11_tryLater 25 = .ok (.getfield 70, 3) := by decide +kernel
theorem dX11_tryLater_28 : decode cX11_tryLater 28 = .ok (.iload_n 2, 1) := by decide +kernel
theorem dX11_tryLater_29 : decode cX11_tryLater 29 = .ok (.iconst 0, 1) := by decide +kernel
theorem dX11_tryLater_30 : decode cX11_tryLater 30 = .ok (.bastore, 1) := by decide +kernel
theorem dX11_tryLater_31 : decode cX11_tryLater 31 = .ok (.aload_n 0, 1) := by decide +kernel
theorem dX11_tryLater_32 : decode cX11_tryLater 32 = .ok (.getfield 82, 3) := by decide +kernel
theorem dX11_tryLater_35 : decode cX11_tryLater 35 = .ok (.iload_n 2, 1) := by decide +kernel
theorem dX11_tryLater_36 : decode cX11_tryLater 36 = .ok (.aload_n 0, 1) := by decide +kernel
theorem dX11_tryLater_37 : decode cX11_tryLater 37 = .ok (.getfield 203, 3) := by decide +kernel
theorem dX11_tryLater_40 : decode cX11_tryLater 40 = .ok (.iastore, 1) := by decide +kernel
theorem dX11_tryLater_41 : decode cX11_tryLater 41 = .ok (.aload_n 0, 1) := by decide +kernel
theorem dX11_tryLater_42 : decode cX11_tryLater 42 = .ok (.getfield 79, 3) := by decide +kernel
theorem dX11_tryLater_45 : decode cX11_tryLater 45 = .ok (.iload_n 2, 1) := by decide +kernel
theorem dX11_tryLater_46 : decode cX11_tryLater 46 = .ok (.aload_n 0, 1) := by decide +kernel
theorem dX11_tryLater_47 : decode cX11_tryLater 47 = .ok (.getfield 39, 3) := by decide +kernel
theorem dX11_tryLater_50 : decode cX11_tryLater 50 = .ok (.iload_n 1, 1) := by decide +kernel
theorem dX11_tryLater_51 : decode cX11_tryLater 51 = .ok (.iaload, 1) := by decide +kernel
theorem dX11_tryLater_52 : decode cX11_tryLater 52 = .ok (.iastore, 1) := by decide +kernel
theorem dX11_tryLater_53 : decode cX11_tryLater 53 = .ok (.aload_n 0, 1) := by decide +kernel
theorem dX11_tryLater_54 : decode cX11_tryLater 54 = .ok (.getfield 91, 3) := by decide +kernel
theorem dX11_tryLater_57 : decode cX11_tryLater 57 = .ok (.iload_n 2, 1) := by decide +kernel
theorem dX11_tryLater_58 : decode cX11_tryLater 58 = .ok (.iconst 0, 1) := by decide +kernel
theorem dX11_tryLater_59 : decode cX11_tryLater 59 = .ok (.bastore, 1) := by decide +kernel
theorem dX11_tryLater_60 : decode cX11_tryLater 60 = .ok (.aload_n 0, 1) := by decide +kernel
theorem dX11_tryLater_61 : decode cX11_tryLater 61 = .ok (.getfield 94, 3) := by decide +kernel
theorem dX11_tryLater_64 : decode cX11_tryLater 64 = .ok (.iload_n 2, 1) := by decide +kernel
theorem dX11_tryLater_65 : decode cX11_tryLater 65 = .ok (.aload_n 0, 1) := by decide +kernel
theorem dX11_tryLater_66 : decode cX11_tryLater 66 = .ok (.getfield 228, 3) := by decide +kernel
theorem dX11_tryLater_69 : decode cX11_tryLater 69 = .ok (.iastore, 1) := by decide +kernel
theorem dX11_tryLater_70 : decode cX11_tryLater 70 = .ok (.aload_n 0, 1) := by decide +kernel
theorem dX11_tryLater_71 : decode cX11_tryLater 71 = .ok (.getfield 97, 3) := by decide +kernel
theorem dX11_tryLater_74 : decode cX11_tryLater 74 = .ok (.iload_n 2, 1) := by decide +kernel
theorem dX11_tryLater_75 : decode cX11_tryLater 75 = .ok (.aload_n 0, 1) := by decide +kernel
theorem dX11_tryLater_76 : decode cX11_tryLater 76 = .ok (.getfield 234, 3) := by decide +kernel
theorem dX11_tryLater_79 : decode cX11_tryLater 79 = .ok (.iastore, 1) := by decide +kernel
theorem dX11_tryLater_80 : decode cX11_tryLater 80 = .ok (.aload_n 0, 1) := by decide +kernel
theorem dX11_tryLater_81 : decode cX11_tryLater 81 = .ok (.getfield 100, 3) := by decide +kernel
theorem dX11_tryLater_84 : decode cX11_tryLater 84 = .ok (.iload_n 2, 1) := by decide +kernel
theorem dX11_tryLater_85 : decode cX11_tryLater 85 = .ok (.aload_n 0, 1) := by decide +kernel
theorem dX11_tryLater_86 : decode cX11_tryLater 86 = .ok (.getfield 237, 3) := by decide +kernel
theorem dX11_tryLater_89 : decode cX11_tryLater 89 = .ok (.iastore, 1) := by decide +kernel
theorem dX11_tryLater_90 : decode cX11_tryLater 90 = .ok (.aload_n 0, 1) := by decide +kernel
theorem dX11_tryLater_91 : decode cX11_tryLater 91 = .ok (.getfield 103, 3) := by decide +kernel
theorem dX11_tryLater_94 : decode cX11_tryLater 94 = .ok (.iload_n 2, 1) := by decide +kernel
theorem dX11_tryLater_95 : decode cX11_tryLater 95 = .ok (.aload_n 0, 1) := by decide +kernel
theorem dX11_tryLater_96 : decode cX11_tryLater 96 = .ok (.getfield 217, 3) := by decide +kernel
theorem dX11_tryLater_99 : decode cX11_tryLater 99 = .ok (.iastore, 1) := by decide +kernel
theorem dX11_tryLater_100 : decode cX11_tryLater 100 = .ok (.aload_n 0, 1) := by decide +kernel
theorem dX11_tryLater_101 : decode cX11_tryLater 101 = .ok (.dup, 1) := by decide +kernel
theorem dX11_tryLater_102 : decode cX11_tryLater 102 = .ok (.getfield 173, 3) := by decide +kernel
theorem dX11_tryLater_105 : decode cX11_tryLater 105 = .ok (.iconst 1, 1) := by decide +kernel
theorem dX11_tryLater_106 : decode cX11_tryLater 106 = .ok (.iadd, 1) := by decide +kernel
theorem dX11_tryLater_107 : decode cX11_tryLater 107 = .ok (.putfield 173, 3) := by decide +kernel
theorem dX11_tryLater_110 : decode cX11_tryLater 110 = .ok (.aload_n 0, 1) := by decide +kernel
theorem dX11_tryLater_111 : decode cX11_tryLater 111 = .ok (.iconst 3, 1) := by decide +kernel
theorem dX11_tryLater_112 : decode cX11_tryLater 112 = .ok (.invokevirtual 186, 3) := by decide +kernel
theorem dX11_tryLater_115 : decode cX11_tryLater 115 = .ok (.aload_n 0, 1) := by decide +kernel
theorem dX11_tryLater_116 : decode cX11_tryLater 116 = .ok (.getfield 79, 3) := by decide +kernel
theorem dX11_tryLater_119 : decode cX11_tryLater 119 = .ok (.aload_n 0, 1) := by decide +kernel
theorem dX11_tryLater_120 : decode cX11_tryLater 120 = .ok (.getfield 203, 3) := by decide +kernel
theorem dX11_tryLater_123 : decode cX11_tryLater 123 = .ok (.dup2, 1) := by decide +kernel
theorem dX11_tryLater_124 : decode cX11_tryLater 124 = .ok (.iaload, 1) := by decide +kernel
theorem dX11_tryLater_125 : decode cX11_tryLater 125 = .ok (.iconst 1, 1) := by decide +kernel
theorem dX11_tryLater_126 : decode cX11_tryLater 126 = .ok (.iadd, 1) := by decide +kernel
theorem dX11_tryLater_127 : decode cX11_tryLater 127 = .ok (.iastore, 1) := by decide +kernel
theorem dX11_tryLater_128 : decode cX11_tryLater 128 = .ok (.return_, 1) := by decide +kernel
theorem dX11_call_0 : decode cX11_call 0 = .ok (.aload_n 0, 1) := by decide +kernel
theorem dX11_call_1 : decode cX11_call 1 = .ok (.getfield 39, 3) := by decide +kernel
theorem dX11_call_4 : decode cX11_call 4 = .ok (.iload_n 1, 1) := by decide +kernel
theorem dX11_call_5 : decode cX11_call 5 = .ok (.iaload, 1) := by decide +kernel
theorem dX11_call_6 : decode cX11_call 6 = .ok (.istore_n 2, 1) := by decide +kernel
theorem dX11_call_7 : decode cX11_call 7 = .ok (.aload_n 0, 1) := by decide +kernel
theorem dX11_call_8 : decode cX11_call 8 = .ok (.getfield 167, 3) := by decide +kernel
theorem dX11_call_11 : decode cX11_call 11 = .ok (.iconst 2, 1) := by decide +kernel
theorem dX11_call_12 : decode cX11_call 12 = .ok (.iadd, 1) := by decide +kernel
theorem dX11_call_13 : decode cX11_call 13 = .ok (.aload_n 0, 1) := by decide +kernel
theorem dX11_call_14 : decode cX11_call 14 = .ok (.getfield 17, 3) := by decide +kernel
theorem dX11_call_17 : decode cX11_call 17 = .ok (.iload_n 2, 1) := by decide +kernel
theorem dX11_call_18 : decode cX11_call 18 = .ok (.iaload, 1) := by decide +kernel
theorem dX11_call_19 : decode cX11_call 19 = .ok (.iadd, 1) := by decide +kernel
theorem dX11_call_20 : decode cX11_call 20 = .ok (.aload_n 0, 1) := by decide +kernel
theorem dX11_call_21 : decode cX11_call 21 = .ok (.getfield 258, 3) := by decide +kernel
theorem dX11_call_24 : decode cX11_call 24 = .ok (.if_icmp .le 9, 3) := by decide +kernel
theorem dX11_call_27 : decode cX11_call 27 = .ok (.aload_n 0, 1) := by decide +kernel
theorem dX11_call_28 : decode cX11_call 28 = .ok (.iconst 4, 1) := by decide +kernel
theorem dX11_call_29 : decode cX11_call 29 = .ok (.putfield 116, 3) := by decide +kernel
theorem dX11_call_32 : decode cX11_call 32 = .ok (.return_, 1) := by decide +kernel
theorem dX11_call_33 : decode cX11_call 33 = .ok (.aload_n 0, 1) := by decide +kernel
theorem dX11_call_34 : decode cX11_call 34 = .ok (.getfield 203, 3) := by decide +kernel
theorem dX11_call_37 : decode cX11_call 37 = .ok (.istore_n 3, 1) := by decide +kernel
theorem dX11_call_38 : decode cX11_call 38 = .ok (.aload_n 0, 1) := by decide +kernel
theorem dX11_call_39 : decode cX11_call 39 = .ok (.getfield 173, 3) := by decide +kernel
theorem dX11_call_42 : decode cX11_call 42 = .ok (.istore 4, 2) := by decide +kernel
theorem dX11_call_44 : decode cX11_call 44 = .ok (.aload_n 0, 1) := by decide +kernel
theorem dX11_call_45 : decode cX11_call 45 = .ok (.iload_n 2, 1) := by decide +kernel
theorem dX11_call_46 : decode cX11_call 46 = .ok (.iload_n 3, 1) := by decide +kernel
theorem dX11_call_47 : decode cX11_call 47 = .ok (.aload_n 0, 1) := by decide +kernel
theorem dX11_call_48 : decode cX11_call 48 = .ok (.getfield 79, 3) := by decide +kernel
theorem dX11_call_51 : decode cX11_call 51 = .ok (.iload_n 3, 1) := by decide +kernel
theorem dX11_call_52 : decode cX11_call 52 = .ok (.iaload, 1) := by decide +kernel
theorem dX11_call_53 : decode cX11_call 53 = .ok (.invokevirtual 261, 3) := by decide +kernel
theorem dX11_call_56 : decode cX11_call 56 = .ok (.iconst 0, 1) := by decide +kernel
theorem dX11_call_57 : decode cX11_call 57 = .ok (.istore 5, 2) := by decide +kernel
theorem dX11_call_59 : decode cX11_call 59 = .ok (.iload 5, 2) := by decide +kernel
theorem dX11_call_61 : decode cX11_call 61 = .ok (.aload_n 0, 1) := by decide +kernel
theorem dX11_call_62 : decode cX11_call 62 = .ok (.getfield 20, 3) := by decide +kernel
theorem dX11_call_65 : decode cX11_call 65 = .ok (.iload_n 2, 1) := by decide +kernel
theorem dX11_call_66 : decode cX11_call 66 = .ok (.iaload, 1) := by decide +kernel
theorem dX11_call_67 : decode cX11_call 67 = .ok (.if_icmp .ge 48, 3) := by decide +kernel
theorem dX11_call_70 : decode cX11_call 70 = .ok (.aload_n 0, 1) := by decide +kernel
theorem dX11_call_71 : decode cX11_call 71 = .ok (.getfield 106, 3) := by decide +kernel
theorem dX11_call_74 : decode cX11_call 74 = .ok (.aload_n 0, 1) := by decide +kernel
theorem dX11_call_75 : decode cX11_call 75 = .ok (.getfield 76, 3) := by decide +kernel
theorem dX11_call_78 : decode cX11_call 78 = .ok (.iload 4, 2) := by decide +kernel
theorem dX11_call_80 : decode cX11_call 80 = .ok (.iaload, 1) := by decide +kernel
theorem dX11_call_81 : decode cX11_call 81 = .ok (.iload 5, 2) := by decide +kernel
theorem dX11_call_83 : decode cX11_call 83 = .ok (.iadd, 1) := by decide +kernel
theorem dX11_call_84 : decode cX11_call 84 = .ok (.aload_n 0, 1) := by decide +kernel
theorem dX11_call_85 : decode cX11_call 85 = .ok (.getfield 106, 3) := by decide +kernel
theorem dX11_call_88 : decode cX11_call 88 = .ok (.aload_n 0, 1) := by decide +kernel
theorem dX11_call_89 : decode cX11_call 89 = .ok (.getfield 76, 3) := by decide +kernel
theorem dX11_call_92 : decode cX11_call 92 = .ok (.iload_n 3, 1) := by decide +kernel
theorem dX11_call_93 : decode cX11_call 93 = .ok (.iaload, 1) := by decide +kernel
theorem dX11_call_94 : decode cX11_call 94 = .ok (.aload_n 0, 1) := by decide +kernel
theorem dX11_call_95 : decode cX11_call 95 = .ok (.getfield 54, 3) := by decide +kernel
theorem dX11_call_98 : decode cX11_call 98 = .ok (.bipush 10, 2) := by decide +kernel
theorem dX11_call_100 : decode cX11_call 100 = .ok (.iload_n 1, 1) := by decide +kernel
theorem dX11_call_101 : decode cX11_call 101 = .ok (.imul, 1) := by decide +kernel
theorem dX11_call_102 : decode cX11_call 102 = .ok (.iload 5, 2) := by decide +kernel
theorem dX11_call_104 : decode cX11_call 104 = .ok (.iadd, 1) := by decide +kernel
theorem dX11_call_105 : decode cX11_call 105 = .ok (.iaload, 1) := by decide +kernel
theorem dX11_call_106 : decode cX11_call 106 = .ok (.iadd, 1) := by decide +kernel
theorem dX11_call_107 : decode cX11_call 107 = .ok (.laload, 1) := by decide +kernel
theorem dX11_call_108 : decode cX11_call 108 = .ok (.lastore, 1) := by decide +kernel
theorem dX11_call_109 : decode cX11_call 109 = .ok (.iinc 5 1, 3) := by decide +kernel
theorem dX11_call_112 : decode cX11_call 112 = .ok (.goto (-53), 3) := by decide +kernel
theorem dX11_call_115 : decode cX11_call 115 = .ok (.aload_n 0, 1) := by decide +kernel
theorem dX11_call_116 : decode cX11_call 116 = .ok (.iload 4, 2) := by decide +kernel
theorem dX11_call_118 : decode cX11_call 118 = .ok (.putfield 203, 3) := by decide +kernel
theorem dX11_call_121 : decode cX11_call 121 = .ok (.return_, 1) := by decide +kernel
theorem dX11_exit_0 : decode cX11_exit 0 = .ok (.aload_n 0, 1) := by decide +kernel
theorem dX11_exit_1 : decode cX11_exit 1 = .ok (.getfield 73, 3) := by decide +kernel
theorem dX11_exit_4 : decode cX11_exit 4 = .ok (.aload_n 0, 1) := by decide +kernel
theorem dX11_exit_5 : decode cX11_exit 5 = .ok (.getfield 203, 3) := by decide +kernel
theorem dX11_exit_8 : decode cX11_exit 8 = .ok (.iaload, 1) := by decide +kernel
theorem dX11_exit_9 : decode cX11_exit 9 = .ok (.istore_n 1, 1) := by decide +kernel
theorem dX11_exit_10 : decode cX11_exit 10 = .ok (.aload_n 0, 1) := by decide +kernel
theorem dX11_exit_11 : decode cX11_exit 11 = .ok (.getfield 13, 3) := by decide +kernel
theorem dX11_exit_14 : decode cX11_exit 14 = .ok (.iload_n 1, 1) := by decide +kernel
theorem dX11_exit_15 : decode cX11_exit 15 = .ok (.baload, 1) := by decide +kernel
theorem dX11_exit_16 : decode cX11_exit 16 = .ok (.ifCond .ne 16, 3) := by decide +kernel
theorem dX11_exit_19 : decode cX11_exit 19 = .ok (.aload_n 0, 1) := by decide +kernel
theorem dX11_exit_20 : decode cX11_exit 20 = .ok (.aload_n 0, 1) := by decide +kernel
theorem dX11_exit_21 : decode cX11_exit 21 = .ok (.getfield 88, 3) := by decide +kernel
theorem dX11_exit_24 : decode cX11_exit 24 = .ok (.aload_n 0, 1) := by decide +kernel
theorem dX11_exit_25 : decode cX11_exit 25 = .ok (.getfield 203, 3) := by decide +kernel
theorem dX11_exit_28 : decode cX11_exit 28 = .ok (.iaload, 1) := by decide +kernel
theorem dX11_exit_29 : decode cX11_exit 29 = .ok (.invokevirtual 265, 3) := by decide +kernel
theorem dX11_exit_32 : decode cX11_exit 32 = .ok (.aload_n 0, 1) := by decide +kernel
theorem dX11_exit_33 : decode cX11_exit 33 = .ok (.getfield 203, 3) := by decide +kernel
theorem dX11_exit_36 : decode cX11_exit 36 = .ok (.istore_n 2, 1) := by decide +kernel
theorem dX11_exit_37 : decode cX11_exit 37 = .ok (.aload_n 0, 1) := by decide +kernel
theorem dX11_exit_38 : decode cX11_exit 38 = .ok (.getfield 82, 3) := by decide +kernel
theorem dX11_exit_41 : decode cX11_exit 41 = .ok (.iload_n 2, 1) := by decide +kernel
theorem dX11_exit_42 : decode cX11_exit 42 = .ok (.iaload, 1) := by decide +kernel
theorem dX11_exit_43 : decode cX11_exit 43 = .ok (.iconst (-1), 1) := by decide +kernel
theorem dX11_exit_44 : decode cX11_exit 44 = .ok (.if_icmp .ne 19, 3) := by decide +kernel
theorem dX11_exit_47 : decode cX11_exit 47 = .ok (.aload_n 0, 1) := by decide +kernel
theorem dX11_exit_48 : decode cX11_exit 48 = .ok (.iconst 1, 1) := by decide +kernel
theorem dX11_exit_49 : decode cX11_exit 49 = .ok (.putfield 116, 3) := by decide +kernel
theorem dX11_exit_52 : decode cX11_exit 52 = .ok (.aload_n 0, 1) := by decide +kernel
theorem dX11_exit_53 : decode cX11_exit 53 = .ok (.dup, 1) := by decide +kernel
theorem dX11_exit_54 : decode cX11_exit 54 = .ok (.getfield 268, 3) := by decide +kernel
theorem dX11_exit_57 : decode cX11_exit 57 = .ok (.iconst 1, 1) := by decide +kernel
theorem dX11_exit_58 : decode cX11_exit 58 = .ok (.iadd, 1) := by decide +kernel
theorem dX11_exit_59 : decode cX11_exit 59 = .ok (.putfield 268, 3) := by decide +kernel
theorem dX11_exit_62 : decode cX11_exit 62 = .ok (.return_, 1) := by decide +kernel
theorem dX11_exit_63 : decode cX11_exit 63 = .ok (.aload_n 0, 1) := by decide +kernel
theorem dX11_exit_64 : decode cX11_exit 64 = .ok (.getfield 82, 3) := by decide +kernel
theorem dX11_exit_67 : decode cX11_exit 67 = .ok (.iload_n 2, 1) := by decide +kernel
theorem dX11_exit_68 : decode cX11_exit 68 = .ok (.iaload, 1) := by decide +kernel
theorem dX11_exit_69 : decode cX11_exit 69 = .ok (.istore_n 3, 1) := by decide +kernel
theorem dX11_exit_70 : decode cX11_exit 70 = .ok (.aload_n 0, 1) := by decide +kernel
theorem dX11_exit_71 : decode cX11_exit 71 = .ok (.getfield 33, 3) := by decide +kernel
theorem dX11_exit_74 : decode cX11_exit 74 = .ok (.sipush 2000, 3) := by decide +kernel
theorem dX11_exit_77 : decode cX11_exit 77 = .ok (.aload_n 0, 1) := by decide +kernel
theorem dX11_exit_78 : decode cX11_exit 78 = .ok (.getfield 73, 3) := by decide +kernel
theorem dX11_exit_81 : decode cX11_exit 81 = .ok (.iload_n 3, 1) := by decide +kernel
theorem dX11_exit_82 : decode cX11_exit 82 = .ok (.iaload, 1) := by decide +kernel
theorem dX11_exit_83 : decode cX11_exit 83 = .ok (.imul, 1) := by decide +kernel
theorem dX11_exit_84 : decode cX11_exit 84 = .ok (.aload_n 0, 1) := by decide +kernel
theorem dX11_exit_85 : decode cX11_exit 85 = .ok (.getfield 85, 3) := by decide +kernel
theorem dX11_exit_88 : decode cX11_exit 88 = .ok (.iload_n 2, 1) := by decide +kernel
theorem dX11_exit_89 : decode cX11_exit 89 = .ok (.iaload, 1) := by decide +kernel
theorem dX11_exit_90 : decode cX11_exit 90 = .ok (.iadd, 1) := by decide +kernel
theorem dX11_exit_91 : decode cX11_exit 91 = .ok (.iaload, 1) := by decide +kernel
theorem dX11_exit_92 : decode cX11_exit 92 = .ok (.istore 4, 2) := by decide +kernel
theorem dX11_exit_94 : decode cX11_exit 94 = .ok (.iconst 0, 1) := by decide +kernel
theorem dX11_exit_95 : decode cX11_exit 95 = .ok (.istore 5, 2) := by decide +kernel
theorem dX11_exit_97 : decode cX11_exit 97 = .ok (.iload 5, 2) := by decide +kernel
theorem dX11_exit_99 : decode cX11_exit 99 = .ok (.aload_n 0, 1) := by decide +kernel
theorem dX11_exit_100 : decode cX11_exit 100 = .ok (.getfield 23, 3) := by decide +kernel
theorem dX11_exit_103 : decode cX11_exit 103 = .ok (.iload_n 1, 1) := by decide +kernel
theorem dX11_exit_104 : decode cX11_exit 104 = .ok (.iaload, 1) := by decide +kernel
theorem dX11_exit_105 : decode cX11_exit 105 = .ok (.if_icmp .ge 58, 3) := by decide +kernel
theorem dX11_exit_108 : decode cX11_exit 108 = .ok (.aload_n 0, 1) := by decide +kernel
theorem dX11_exit_109 : decode cX11_exit 109 = .ok (.iload_n 3, 1) := by decide +kernel
theorem dX11_exit_110 : decode cX11_exit 110 = .ok (.aload_n 0, 1) := by decide +kernel
theorem dX11_exit_111 : decode cX11_exit 111 = .ok (.getfield 54, 3) := by decide +kernel
theorem dX11_exit_114 : decode cX11_exit 114 = .ok (.bipush 10, 2) := by decide +kernel
theorem dX11_exit_116 : decode cX11_exit 116 = .ok (.iload 4, 2) := by decide +kernel
theorem dX11_exit_118 : decode cX11_exit 118 = .ok (.imul, 1) := by decide +kernel
theorem dX11_exit_119 : decode cX11_exit 119 = .ok (.aload_n 0, 1) := by decide +kernel
theorem dX11_exit_120 : decode cX11_exit 120 = .ok (.getfield 20, 3) := by decide +kernel
theorem dX11_exit_123 : decode cX11_exit 123 = .ok (.iload_n 1, 1) := by decide +kernel
theorem dX11_exit_124 : decode cX11_exit 124 = .ok (.iaload, 1) := by decide +kernel
theorem dX11_exit_125 : decode cX11_exit 125 = .ok (.iadd, 1) := by decide +kernel
theorem dX11_exit_126 : decode cX11_exit 126 = .ok (.iload 5, 2) := by decide +kernel
theorem dX11_exit_128 : decode cX11_exit 128 = .ok (.iadd, 1) := by decide +kernel
theorem dX11_exit_129 : decode cX11_exit 129 = .ok (.iaload, 1) := by decide +kernel
theorem dX11_exit_130 : decode cX11_exit 130 = .ok (.aload_n 0, 1) := by decide +kernel
theorem dX11_exit_131 : decode cX11_exit 131 = .ok (.getfield 106, 3) := by decide +kernel
theorem dX11_exit_134 : decode cX11_exit 134 = .ok (.aload_n 0, 1) := by decide +kernel
theorem dX11_exit_135 : decode cX11_exit 135 = .ok (.getfield 76, 3) := by decide +kernel
theorem dX11_exit_138 : decode cX11_exit 138 = .ok (.iload_n 2, 1) := by decide +kernel
theorem dX11_exit_139 : decode cX11_exit 139 = .ok (.iaload, 1) := by decide +kernel
theorem dX11_exit_140 : decode cX11_exit 140 = .ok (.aload_n 0, 1) := by decide +kernel
theorem dX11_exit_141 : decode cX11_exit 141 = .ok (.getfield 26, 3) := by decide +kernel
theorem dX11_exit_144 : decode cX11_exit 144 = .ok (.bipush 8, 2) := by decide +kernel
theorem dX11_exit_146 : decode cX11_exit 146 = .ok (.iload_n 1, 1) := by decide +kernel
theorem dX11_exit_147 : decode cX11_exit 147 = .ok (.imul, 1) := by decide +kernel
theorem dX11_exit_148 : decode cX11_exit 148 = .ok (.iload 5, 2) := by decide +kernel
theorem dX11_exit_150 : decode cX11_exit 150 = .ok (.iadd, 1) := by decide +kernel
theorem dX11_exit_151 : decode cX11_exit 151 = .ok (.iaload, 1) := by decide +kernel
theorem dX11_exit_152 : decode cX11_exit 152 = .ok (.iadd, 1) := by decide +kernel
theorem dX11_exit_153 : decode cX11_exit 153 = .ok (.laload, 1) := by decide +kernel
theorem dX11_exit_154 : decode cX11_exit 154 = .ok (.invokevirtual 220, 3) := by decide +kernel
theorem dX11_exit_157 : decode cX11_exit 157 = .ok (.iinc 5 1, 3) := by decide +kernel
theorem dX11_exit_160 : decode cX11_exit 160 = .ok (.goto (-63), 3) := by decide +kernel
theorem dX11_exit_163 : decode cX11_exit 163 = .ok (.aload_n 0, 1) := by decide +kernel
theorem dX11_exit_164 : decode cX11_exit 164 = .ok (.iload_n 3, 1) := by decide +kernel
theorem dX11_exit_165 : decode cX11_exit 165 = .ok (.putfield 203, 3) := by decide +kernel
theorem dX11_exit_168 : decode cX11_exit 168 = .ok (.aload_n 0, 1) := by decide +kernel
theorem dX11_exit_169 : decode cX11_exit 169 = .ok (.getfield 79, 3) := by decide +kernel
theorem dX11_exit_172 : decode cX11_exit 172 = .ok (.iload_n 3, 1) := by decide +kernel
theorem dX11_exit_173 : decode cX11_exit 173 = .ok (.aload_n 0, 1) := by decide +kernel
theorem dX11_exit_174 : decode cX11_exit 174 = .ok (.getfield 85, 3) := by decide +kernel
theorem dX11_exit_177 : decode cX11_exit 177 = .ok (.iload_n 2, 1) := by decide +kernel
theorem dX11_exit_178 : decode cX11_exit 178 = .ok (.iaload, 1) := by decide +kernel
theorem dX11_exit_179 : decode cX11_exit 179 = .ok (.iconst 1, 1) := by decide +kernel
theorem dX11_exit_180 : decode cX11_exit 180 = .ok (.iadd, 1) := by decide +kernel
theorem dX11_exit_181 : decode cX11_exit 181 = .ok (.iastore, 1) := by decide +kernel
theorem dX11_exit_182 : decode cX11_exit 182 = .ok (.iload_n 2, 1) := by decide +kernel
theorem dX11_exit_183 : decode cX11_exit 183 = .ok (.aload_n 0, 1) := by decide +kernel
theorem dX11_exit_184 : decode cX11_exit 184 = .ok (.getfield 173, 3) := by decide +kernel
theorem dX11_exit_187 : decode cX11_exit 187 = .ok (.iconst 1, 1) := by decide +kernel
theorem dX11_exit_188 : decode cX11_exit 188 = .ok (.isub, 1) := by decide +kernel
theorem dX11_exit_189 : decode cX11_exit 189 = .ok (.if_icmp .ne 8, 3) := by decide +kernel
theorem dX11_exit_192 : decode cX11_exit 192 = .ok (.aload_n 0, 1) := by decide +kernel
theorem dX11_exit_193 : decode cX11_exit 193 = .ok (.iload_n 2, 1) := by decide +kernel
theorem dX11_exit_194 : decode cX11_exit 194 = .ok (.invokevirtual 212, 3) := by decide +kernel
theorem dX11_exit_197 : decode cX11_exit 197 = .ok (.return_, 1) := by decide +kernel
theorem dX11_holds_0 : decode cX11_holds 0 = .ok (.iload_n 0, 1) := by decide +kernel
theorem dX11_holds_1 : decode cX11_holds 1 = .ok (.tableswitch 90 0 4 #[35, 46, 57, 68, 79], 35) := by decide +kernel
theorem dX11_holds_36 : decode cX11_holds 36 = .ok (.iload_n 1, 1) := by decide +kernel
theorem dX11_holds_37 : decode cX11_holds 37 = .ok (.iload_n 2, 1) := by decide +kernel
theorem dX11_holds_38 : decode cX11_holds 38 = .ok (.if_icmp .ge 7, 3) := by decide +kernel
theorem dX11_holds_41 : decode cX11_holds 41 = .ok (.iconst 1, 1) := by decide +kernel
theorem dX11_holds_42 : decode cX11_holds 42 = .ok (.goto 4, 3) := by decide +kernel
theorem dX11_holds_45 : decode cX11_holds 45 = .ok (.iconst 0, 1) := by decide +kernel
theorem dX11_holds_46 : decode cX11_holds 46 = .ok (.ireturn, 1) := by decide +kernel
theorem dX11_holds_47 : decode cX11_holds 47 = .ok (.iload_n 1, 1) := by decide +kernel
theorem dX11_holds_48 : decode cX11_holds 48 = .ok (.iload_n 2, 1) := by decide +kernel
theorem dX11_holds_49 : decode cX11_holds 49 = .ok (.if_icmp .gt 7, 3) := by decide +kernel
theorem dX11_holds_52 : decode cX11_holds 52 = .ok (.iconst 1, 1) := by decide +kernel
theorem dX11_holds_53 : decode cX11_holds 53 = .ok (.goto 4, 3) := by decide +kernel
theorem dX11_holds_56 : decode cX11_holds 56 = .ok (.iconst 0, 1) := by decide +kernel
theorem dX11_holds_57 : decode cX11_holds 57 = .ok (.ireturn, 1) := by decide +kernel
theorem dX11_holds_58 : decode cX11_holds 58 = .ok (.iload_n 1, 1) := by decide +kernel
theorem dX11_holds_59 : decode cX11_holds 59 = .ok (.iload_n 2, 1) := by decide +kernel
theorem dX11_holds_60 : decode cX11_holds 60 = .ok (.if_icmp .le 7, 3) := by decide +kernel
theorem dX11_holds_63 : decode cX11_holds 63 = .ok (.iconst 1, 1) := by decide +kernel
theorem dX11_holds_64 : decode cX11_holds 64 = .ok (.goto 4, 3) := by decide +kernel
theorem dX11_holds_67 : decode cX11_holds 67 = .ok (.iconst 0, 1) := by decide +kernel
theorem dX11_holds_68 : decode cX11_holds 68 = .ok (.ireturn, 1) := by decide +kernel
theorem dX11_holds_69 : decode cX11_holds 69 = .ok (.iload_n 1, 1) := by decide +kernel
theorem dX11_holds_70 : decode cX11_holds 70 = .ok (.iload_n 2, 1) := by decide +kernel
theorem dX11_holds_71 : decode cX11_holds 71 = .ok (.if_icmp .lt 7, 3) := by decide +kernel
theorem dX11_holds_74 : decode cX11_holds 74 = .ok (.iconst 1, 1) := by decide +kernel
theorem dX11_holds_75 : decode cX11_holds 75 = .ok (.goto 4, 3) := by decide +kernel
theorem dX11_holds_78 : decode cX11_holds 78 = .ok (.iconst 0, 1) := by decide +kernel
theorem dX11_holds_79 : decode cX11_holds 79 = .ok (.ireturn, 1) := by decide +kernel
theorem dX11_holds_80 : decode cX11_holds 80 = .ok (.iload_n 1, 1) := by decide +kernel
theorem dX11_holds_81 : decode cX11_holds 81 = .ok (.iload_n 2, 1) := by decide +kernel
theorem dX11_holds_82 : decode cX11_holds 82 = .ok (.if_icmp .ne 7, 3) := by decide +kernel
theorem dX11_holds_85 : decode cX11_holds 85 = .ok (.iconst 1, 1) := by decide +kernel
theorem dX11_holds_86 : decode cX11_holds 86 = .ok (.goto 4, 3) := by decide +kernel
theorem dX11_holds_89 : decode cX11_holds 89 = .ok (.iconst 0, 1) := by decide +kernel
theorem dX11_holds_90 : decode cX11_holds 90 = .ok (.ireturn, 1) := by decide +kernel
theorem dX11_holds_91 : decode cX11_holds 91 = .ok (.iload_n 1, 1) := by decide +kernel
theorem dX11_holds_92 : decode cX11_holds 92 = .ok (.iload_n 2, 1) := by decide +kernel
theorem dX11_holds_93 : decode cX11_holds 93 = .ok (.if_icmp .eq 7, 3) := by decide +kernel
theorem dX11_holds_96 : decode cX11_holds 96 = .ok (.iconst 1, 1) := by decide +kernel
theorem dX11_holds_97 : decode cX11_holds 97 = .ok (.goto 4, 3) := by decide +kernel
theorem dX11_holds_100 : decode cX11_holds 100 = .ok (.iconst 0, 1) := by decide +kernel
theorem dX11_holds_101 : decode cX11_holds 101 = .ok (.ireturn, 1) := by decide +kernel
theorem dX11_summed_0 : decode cX11_summed 0 = .ok (.aload_n 0, 1) := by decide +kernel
theorem dX11_summed_1 : decode cX11_summed 1 = .ok (.aload_n 0, 1) := by decide +kernel
theorem dX11_summed_2 : decode cX11_summed 2 = .ok (.getfield 42, 3) := by decide +kernel
theorem dX11_summed_5 : decode cX11_summed 5 = .ok (.iload_n 1, 1) := by decide +kernel
theorem dX11_summed_6 : decode cX11_summed 6 = .ok (.iaload, 1) := by decide +kernel
theorem dX11_summed_7 : decode cX11_summed 7 = .ok (.invokevirtual 240, 3) := by decide +kernel
theorem dX11_summed_10 : decode cX11_summed 10 = .ok (.lstore_n 2, 1) := by decide +kernel
theorem dX11_summed_11 : decode cX11_summed 11 = .ok (.aload_n 0, 1) := by decide +kernel
theorem dX11_summed_12 : decode cX11_summed 12 = .ok (.aload_n 0, 1) := by decide +kernel
theorem dX11_summed_13 : decode cX11_summed 13 = .ok (.getfield 45, 3) := by decide +kernel
theorem dX11_summed_16 : decode cX11_summed 16 = .ok (.iload_n 1, 1) := by decide +kernel
theorem dX11_summed_17 : decode cX11_summed 17 = .ok (.iaload, 1) := by decide +kernel
theorem dX11_summed_18 : decode cX11_summed 18 = .ok (.invokevirtual 240, 3) := by decide +kernel
theorem dX11_summed_21 : decode cX11_summed 21 = .ok (.lstore 4, 2) := by decide +kernel
theorem dX11_summed_23 : decode cX11_summed 23 = .ok (.lload_n 2, 1) := by decide +kernel
theorem dX11_summed_24 : decode cX11_summed 24 = .ok (.invokestatic 224, 3) := by decide +kernel
theorem dX11_summed_27 : decode cX11_summed 27 = .ok (.ifCond .ne 11, 3) := by decide +kernel
theorem dX11_summed_30 : decode cX11_summed 30 = .ok (.lload 4, 2) := by decide +kernel
theorem dX11_summed_32 : decode cX11_summed 32 = .ok (.invokestatic 224, 3) := by decide +kernel
theorem dX11_summed_35 : decode cX11_summed 35 = .ok (.ifCond .eq 10, 3) := by decide +kernel
theorem dX11_summed_38 : decode cX11_summed 38 = .ok (.aload_n 0, 1) := by decide +kernel
theorem dX11_summed_39 : decode cX11_summed 39 = .ok (.bipush 6, 2) := by decide +kernel
theorem dX11_summed_41 : decode cX11_summed 41 = .ok (.putfield 116, 3) := by decide +kernel
theorem dX11_summed_44 : decode cX11_summed 44 = .ok (.return_, 1) := by decide +kernel
theorem dX11_summed_45 : decode cX11_summed 45 = .ok (.lload_n 2, 1) := by decide +kernel
theorem dX11_summed_46 : decode cX11_summed 46 = .ok (.l2i, 1) := by decide +kernel
theorem dX11_summed_47 : decode cX11_summed 47 = .ok (.istore 6, 2) := by decide +kernel
theorem dX11_summed_49 : decode cX11_summed 49 = .ok (.lload 4, 2) := by decide +kernel
theorem dX11_summed_51 : decode cX11_summed 51 = .ok (.l2i, 1) := by decide +kernel
theorem dX11_summed_52 : decode cX11_summed 52 = .ok (.istore 7, 2) := by decide +kernel
theorem dX11_summed_54 : decode cX11_summed 54 = .ok (.aload_n 0, 1) := by decide +kernel
theorem dX11_summed_55 : decode cX11_summed 55 = .ok (.getfield 48, 3) := by decide +kernel
theorem dX11_summed_58 : decode cX11_summed 58 = .ok (.iload_n 1, 1) := by decide +kernel
theorem dX11_summed_59 : decode cX11_summed 59 = .ok (.iaload, 1) := by decide +kernel
theorem dX11_summed_60 : decode cX11_summed 60 = .ok (.istore 8, 2) := by decide +kernel
theorem dX11_summed_62 : decode cX11_summed 62 = .ok (.iload 8, 2) := by decide +kernel
theorem dX11_summed_64 : decode cX11_summed 64 = .ok (.iconst 2, 1) := by decide +kernel
theorem dX11_summed_65 : decode cX11_summed 65 = .ok (.if_icmp .le 13, 3) := by decide +kernel
theorem dX11_summed_68 : decode cX11_summed 68 = .ok (.iload 7, 2) := by decide +kernel
theorem dX11_summed_70 : decode cX11_summed 70 = .ok (.ifCond .ne 8, 3) := by decide +kernel
theorem dX11_summed_73 : decode cX11_summed 73 = .ok (.aload_n 0, 1) := by decide +kernel
theorem dX11_summed_74 : decode cX11_summed 74 = .ok (.invokevirtual 255, 3) := by decide +kernel
theorem dX11_summed_77 : decode cX11_summed 77 = .ok (.return_, 1) := by decide +kernel
theorem dX11_summed_78 : decode cX11_summed 78 = .ok (.iload 8, 2) := by decide +kernel
theorem dX11_summed_80 : decode cX11_summed 80 = .ok (.ifCond .ne 11, 3) := by decide +kernel
theorem dX11_summed_83 : decode cX11_summed 83 = .ok (.iload 6, 2) := by decide +kernel
theorem dX11_summed_85 : decode cX11_summed 85 = .ok (.iload 7, 2) := by decide +kernel
theorem dX11_summed_87 : decode cX11_summed 87 = .ok (.iadd, 1) := by decide +kernel
theorem dX11_summed_88 : decode cX11_summed 88 = .ok (.goto 50, 3) := by decide +kernel
theorem dX11_summed_91 : decode cX11_summed 91 = .ok (.iload 8, 2) := by decide +kernel
theorem dX11_summed_93 : decode cX11_summed 93 = .ok (.iconst 1, 1) := by decide +kernel
theorem dX11_summed_94 : decode cX11_summed 94 = .ok (.if_icmp .ne 11, 3) := by decide +kernel
theorem dX11_summed_97 : decode cX11_summed 97 = .ok (.iload 6, 2) := by decide +kernel
theorem dX11_summed_99 : decode cX11_summed 99 = .ok (.iload 7, 2) := by decide +kernel
theorem dX11_summed_101 : decode cX11_summed 101 = .ok (.isub, 1) := by decide +kernel
theorem dX11_summed_102 : decode cX11_summed 102 = .ok (.goto 36, 3) := by decide +kernel
theorem dX11_summed_105 : decode cX11_summed 105 = .ok (.iload 8, 2) := by decide +kernel
theorem dX11_summed_107 : decode cX11_summed 107 = .ok (.iconst 2, 1) := by decide +kernel
theorem dX11_summed_108 : decode cX11_summed 108 = .ok (.if_icmp .ne 11, 3) := by decide +kernel
theorem dX11_summed_111 : decode cX11_summed 111 = .ok (.iload 6, 2) := by decide +kernel
theorem dX11_summed_113 : decode cX11_summed 113 = .ok (.iload 7, 2) := by decide +kernel
theorem dX11_summed_115 : decode cX11_summed 115 = .ok (.imul, 1) := by decide +kernel
theorem dX11_summed_116 : decode cX11_summed 116 = .ok (.goto 22, 3) := by decide +kernel
theorem dX11_summed_119 : decode cX11_summed 119 = .ok (.iload 8, 2) := by decide +kernel
theorem dX11_summed_121 : decode cX11_summed 121 = .ok (.iconst 3, 1) := by decide +kernel
theorem dX11_summed_122 : decode cX11_summed 122 = .ok (.if_icmp .ne 11, 3) := by decide +kernel
theorem dX11_summed_125 : decode cX11_summed 125 = .ok (.iload 6, 2) := by decide +kernel
theorem dX11_summed_127 : decode cX11_summed 127 = .ok (.iload 7, 2) := by decide +kernel
theorem dX11_summed_129 : decode cX11_summed 129 = .ok (.idiv, 1) := by decide +kernel
theorem dX11_summed_130 : decode cX11_summed 130 = .ok (.goto 8, 3) := by decide +kernel
theorem dX11_summed_133 : decode cX11_summed 133 = .ok (.iload 6, 2) := by decide +kernel
theorem dX11_summed_135 : decode cX11_summed 135 = .ok (.iload 7, 2) := by decide +kernel
theorem dX11_summed_137 : decode cX11_summed 137 = .ok (.irem, 1) := by decide +kernel
theorem dX11_summed_138 : decode cX11_summed 138 = .ok (.istore 9, 2) := by decide +kernel
theorem dX11_summed_140 : decode cX11_summed 140 = .ok (.aload_n 0, 1) := by decide +kernel
theorem dX11_summed_141 : decode cX11_summed 141 = .ok (.aload_n 0, 1) := by decide +kernel
theorem dX11_summed_142 : decode cX11_summed 142 = .ok (.getfield 39, 3) := by decide +kernel
theorem dX11_summed_145 : decode cX11_summed 145 = .ok (.iload_n 1, 1) := by decide +kernel
theorem dX11_summed_146 : decode cX11_summed 146 = .ok (.iaload, 1) := by decide +kernel
theorem dX11_summed_147 : decode cX11_summed 147 = .ok (.iload 9, 2) := by decide +kernel
theorem dX11_summed_149 : decode cX11_summed 149 = .ok (.i2l, 1) := by decide +kernel
theorem dX11_summed_150 : decode cX11_summed 150 = .ok (.invokevirtual 247, 3) := by decide +kernel
theorem dX11_summed_153 : decode cX11_summed 153 = .ok (.aload_n 0, 1) := by decide +kernel
theorem dX11_summed_154 : decode cX11_summed 154 = .ok (.getfield 79, 3) := by decide +kernel
theorem dX11_summed_157 : decode cX11_summed 157 = .ok (.aload_n 0, 1) := by decide +kernel
theorem dX11_summed_158 : decode cX11_summed 158 = .ok (.getfield 203, 3) := by decide +kernel
theorem dX11_summed_161 : decode cX11_summed 161 = .ok (.dup2, 1) := by decide +kernel
theorem dX11_summed_162 : decode cX11_summed 162 = .ok (.iaload, 1) := by decide +kernel
theorem dX11_summed_163 : decode cX11_summed 163 = .ok (.iconst 1, 1) := by decide +kernel
theorem dX11_summed_164 : decode cX11_summed 164 = .ok (.iadd, 1) := by decide +kernel
theorem dX11_summed_165 : decode cX11_summed 165 = .ok (.iastore, 1) := by decide +kernel
theorem dX11_summed_166 : decode cX11_summed 166 = .ok (.return_, 1) := by decide +kernel
theorem dX11_compared_0 : decode cX11_compared 0 = .ok (.aload_n 0, 1) := by decide +kernel
theorem dX11_compared_1 : decode cX11_compared 1 = .ok (.aload_n 0, 1) := by decide +kernel
theorem dX11_compared_2 : decode cX11_compared 2 = .ok (.getfield 39, 3) := by decide +kernel
theorem dX11_compared_5 : decode cX11_compared 5 = .ok (.iload_n 1, 1) := by decide +kernel
theorem dX11_compared_6 : decode cX11_compared 6 = .ok (.iaload, 1) := by decide +kernel
theorem dX11_compared_7 : decode cX11_compared 7 = .ok (.invokevirtual 240, 3) := by decide +kernel
theorem dX11_compared_10 : decode cX11_compared 10 = .ok (.lstore_n 2, 1) := by decide +kernel
theorem dX11_compared_11 : decode cX11_compared 11 = .ok (.aload_n 0, 1) := by decide +kernel
theorem dX11_compared_12 : decode cX11_compared 12 = .ok (.aload_n 0, 1) := by decide +kernel
theorem dX11_compared_13 : decode cX11_compared 13 = .ok (.getfield 42, 3) := by decide +kernel
theorem dX11_compared_16 : decode cX11_compared 16 = .ok (.iload_n 1, 1) := by decide +kernel
theorem dX11_compared_17 : decode cX11_compared 17 = .ok (.iaload, 1) := by decide +kernel
theorem dX11_compared_18 : decode cX11_compared 18 = .ok (.invokevirtual 240, 3) := by decide +kernel
theorem dX11_compared_21 : decode cX11_compared 21 = .ok (.lstore 4, 2) := by decide +kernel
theorem dX11_compared_23 : decode cX11_compared 23 = .ok (.lload_n 2, 1) := by decide +kernel
theorem dX11_compared_24 : decode cX11_compared 24 = .ok (.invokestatic 224, 3) := by decide +kernel
theorem dX11_compared_27 : decode cX11_compared 27 = .ok (.ifCond .ne 11, 3) := by decide +kernel
theorem dX11_compared_30 : decode cX11_compared 30 = .ok (.lload 4, 2) := by decide +kernel
theorem dX11_compared_32 : decode cX11_compared 32 = .ok (.invokestatic 224, 3) := by decide +kernel
theorem dX11_compared_35 : decode cX11_compared 35 = .ok (.ifCond .eq 12, 3) := by decide +kernel
theorem dX11_compared_38 : decode cX11_compared 38 = .ok (.aload_n 0, 1) := by decide +kernel
theorem dX11_compared_39 : decode cX11_compared 39 = .ok (.bipush 6, 2) := by decide +kernel
theorem dX11_compared_41 : decode cX11_compared 41 = .ok (.putfield 116, 3) := by decide +kernel
theorem dX11_compared_44 : decode cX11_compared 44 = .ok (.goto 40, 3) := by decide +kernel
theorem dX11_compared_47 : decode cX11_compared 47 = .ok (.aload_n 0, 1) := by decide +kernel
theorem dX11_compared_48 : decode cX11_compared 48 = .ok (.getfield 45, 3) := by decide +kernel
theorem dX11_compared_51 : decode cX11_compared 51 = .ok (.iload_n 1, 1) := by decide +kernel
theorem dX11_compared_52 : decode cX11_compared 52 = .ok (.iaload, 1) := by decide +kernel
theorem dX11_compared_53 : decode cX11_compared 53 = .ok (.lload_n 2, 1) := by decide +kernel
theorem dX11_compared_54 : decode cX11_compared 54 = .ok (.l2i, 1) := by decide +kernel
theorem dX11_compared_55 : decode cX11_compared 55 = .ok (.lload 4, 2) := by decide +kernel
theorem dX11_compared_57 : decode cX11_compared 57 = .ok (.l2i, 1) := by decide +kernel
theorem dX11_compared_58 : decode cX11_compared 58 = .ok (.invokestatic 271, 3) := by decide +kernel
theorem dX11_compared_61 : decode cX11_compared 61 = .ok (.ifCond .eq 19, 3) := by decide +kernel
theorem dX11_compared_64 : decode cX11_compared 64 = .ok (.aload_n 0, 1) := by decide +kernel
theorem dX11_compared_65 : decode cX11_compared 65 = .ok (.getfield 79, 3) := by decide +kernel
theorem dX11_compared_68 : decode cX11_compared 68 = .ok (.aload_n 0, 1) := by decide +kernel
theorem dX11_compared_69 : decode cX11_compared 69 = .ok (.getfield 203, 3) := by decide +kernel
theorem dX11_compared_72 : decode cX11_compared 72 = .ok (.dup2, 1) := by decide +kernel
theorem dX11_compared_73 : decode cX11_compared 73 = .ok (.iaload, 1) := by decide +kernel
theorem dX11_compared_74 : decode cX11_compared 74 = .ok (.iconst 1, 1) := by decide +kernel
theorem dX11_compared_75 : decode cX11_compared 75 = .ok (.iadd, 1) := by decide +kernel
theorem dX11_compared_76 : decode cX11_compared 76 = .ok (.iastore, 1) := by decide +kernel
theorem dX11_compared_77 : decode cX11_compared 77 = .ok (.goto 7, 3) := by decide +kernel
theorem dX11_compared_80 : decode cX11_compared 80 = .ok (.aload_n 0, 1) := by decide +kernel
theorem dX11_compared_81 : decode cX11_compared 81 = .ok (.invokevirtual 255, 3) := by decide +kernel
theorem dX11_compared_84 : decode cX11_compared 84 = .ok (.return_, 1) := by decide +kernel
theorem dX11_same_0 : decode cX11_same 0 = .ok (.aload_n 0, 1) := by decide +kernel
theorem dX11_same_1 : decode cX11_same 1 = .ok (.aload_n 0, 1) := by decide +kernel
theorem dX11_same_2 : decode cX11_same 2 = .ok (.aload_n 0, 1) := by decide +kernel
theorem dX11_same_3 : decode cX11_same 3 = .ok (.getfield 39, 3) := by decide +kernel
theorem dX11_same_6 : decode cX11_same 6 = .ok (.iload_n 1, 1) := by decide +kernel
theorem dX11_same_7 : decode cX11_same 7 = .ok (.iaload, 1) := by decide +kernel
theorem dX11_same_8 : decode cX11_same 8 = .ok (.invokevirtual 240, 3) := by decide +kernel
theorem dX11_same_11 : decode cX11_same 11 = .ok (.aload_n 0, 1) := by decide +kernel
theorem dX11_same_12 : decode cX11_same 12 = .ok (.aload_n 0, 1) := by decide +kernel
theorem dX11_same_13 : decode cX11_same 13 = .ok (.getfield 42, 3) := by decide +kernel
theorem dX11_same_16 : decode cX11_same 16 = .ok (.iload_n 1, 1) := by decide +kernel
theorem dX11_same_17 : decode cX11_same 17 = .ok (.iaload, 1) := by decide +kernel
theorem dX11_same_18 : decode cX11_same 18 = .ok (.invokevirtual 240, 3) := by decide +kernel
theorem dX11_same_21 : decode cX11_same 21 = .ok (.invokevirtual 274, 3) := by decide +kernel
theorem dX11_same_24 : decode cX11_same 24 = .ok (.istore_n 2, 1) := by decide +kernel
theorem dX11_same_25 : decode cX11_same 25 = .ok (.iload_n 2, 1) := by decide +kernel
theorem dX11_same_26 : decode cX11_same 26 = .ok (.iconst 2, 1) := by decide +kernel
theorem dX11_same_27 : decode cX11_same 27 = .ok (.if_icmp .ne 12, 3) := by decide +kernel
theorem dX11_same_30 : decode cX11_same 30 = .ok (.aload_n 0, 1) := by decide +kernel
theorem dX11_same_31 : decode cX11_same 31 = .ok (.bipush 6, 2) := by decide +kernel
theorem dX11_same_33 : decode cX11_same 33 = .ok (.putfield 116, 3) := by decide +kernel
theorem dX11_same_36 : decode cX11_same 36 = .ok (.goto 28, 3) := by decide +kernel
theorem dX11_same_39 : decode cX11_same 39 = .ok (.iload_n 2, 1) := by decide +kernel
theorem dX11_same_40 : decode cX11_same 40 = .ok (.iconst 1, 1) := by decide +kernel
theorem dX11_same_41 : decode cX11_same 41 = .ok (.if_icmp .ne 10, 3) := by decide +kernel
theorem dX11_same_44 : decode cX11_same 44 = .ok (.aload_n 0, 1) := by decide +kernel
theorem dX11_same_45 : decode cX11_same 45 = .ok (.invokevirtual 255, 3) := by decide +kernel
theorem dX11_same_48 : decode cX11_same 48 = .ok (.goto 16, 3) := by decide +kernel
theorem dX11_same_51 : decode cX11_same 51 = .ok (.aload_n 0, 1) := by decide +kernel
theorem dX11_same_52 : decode cX11_same 52 = .ok (.getfield 79, 3) := by decide +kernel
theorem dX11_same_55 : decode cX11_same 55 = .ok (.aload_n 0, 1) := by decide +kernel
theorem dX11_same_56 : decode cX11_same 56 = .ok (.getfield 203, 3) := by decide +kernel
theorem dX11_same_59 : decode cX11_same 59 = .ok (.dup2, 1) := by decide +kernel
theorem dX11_same_60 : decode cX11_same 60 = .ok (.iaload, 1) := by decide +kernel
theorem dX11_same_61 : decode cX11_same 61 = .ok (.iconst 1, 1) := by decide +kernel
theorem dX11_same_62 : decode cX11_same 62 = .ok (.iadd, 1) := by decide +kernel
theorem dX11_same_63 : decode cX11_same 63 = .ok (.iastore, 1) := by decide +kernel
theorem dX11_same_64 : decode cX11_same 64 = .ok (.return_, 1) := by decide +kernel
theorem dX11_cutOrDrop_0 : decode cX11_cutOrDrop 0 = .ok (.aload_n 0, 1) := by decide +kernel
theorem dX11_cutOrDrop_1 : decode cX11_cutOrDrop 1 = .ok (.aload_n 0, 1) := by decide +kernel
theorem dX11_cutOrDrop_2 : decode cX11_cutOrDrop 2 = .ok (.getfield 39, 3) := by decide +kernel
theorem dX11_cutOrDrop_5 : decode cX11_cutOrDrop 5 = .ok (.iload_n 1, 1) := by decide +kernel
theorem dX11_cutOrDrop_6 : decode cX11_cutOrDrop 6 = .ok (.iaload, 1) := by decide +kernel
theorem dX11_cutOrDrop_7 : decode cX11_cutOrDrop 7 = .ok (.invokevirtual 240, 3) := by decide +kernel
theorem dX11_cutOrDrop_10 : decode cX11_cutOrDrop 10 = .ok (.lstore_n 2, 1) := by decide +kernel
theorem dX11_cutOrDrop_11 : decode cX11_cutOrDrop 11 = .ok (.lload_n 2, 1) := by decide +kernel
theorem dX11_cutOrDrop_12 : decode cX11_cutOrDrop 12 = .ok (.invokestatic 224, 3) := by decide +kernel
theorem dX11_cutOrDrop_15 : decode cX11_cutOrDrop 15 = .ok (.ifCond .eq 10, 3) := by decide +kernel
theorem dX11_cutOrDrop_18 : decode cX11_cutOrDrop 18 = .ok (.aload_n 0, 1) := by decide +kernel
theorem dX11_cutOrDrop_19 : decode cX11_cutOrDrop 19 = .ok (.bipush 6, 2) := by decide +kernel
theorem dX11_cutOrDrop_21 : decode cX11_cutOrDrop 21 = .ok (.putfield 116, 3) := by decide +kernel
theorem dX11_cutOrDrop_24 : decode cX11_cutOrDrop 24 = .ok (.return_, 1) := by decide +kernel
theorem dX11_cutOrDrop_25 : decode cX11_cutOrDrop 25 = .ok (.aload_n 0, 1) := by decide +kernel
theorem dX11_cutOrDrop_26 : decode cX11_cutOrDrop 26 = .ok (.getfield 79, 3) := by decide +kernel
theorem dX11_cutOrDrop_29 : decode cX11_cutOrDrop 29 = .ok (.aload_n 0, 1) := by decide +kernel
theorem dX11_cutOrDrop_30 : decode cX11_cutOrDrop 30 = .ok (.getfield 203, 3) := by decide +kernel
theorem dX11_cutOrDrop_33 : decode cX11_cutOrDrop 33 = .ok (.dup2, 1) := by decide +kernel
theorem dX11_cutOrDrop_34 : decode cX11_cutOrDrop 34 = .ok (.iaload, 1) := by decide +kernel
theorem dX11_cutOrDrop_35 : decode cX11_cutOrDrop 35 = .ok (.iconst 1, 1) := by decide +kernel
theorem dX11_cutOrDrop_36 : decode cX11_cutOrDrop 36 = .ok (.iadd, 1) := by decide +kernel
theorem dX11_cutOrDrop_37 : decode cX11_cutOrDrop 37 = .ok (.iastore, 1) := by decide +kernel
theorem dX11_cutOrDrop_38 : decode cX11_cutOrDrop 38 = .ok (.aload_n 0, 1) := by decide +kernel
theorem dX11_cutOrDrop_39 : decode cX11_cutOrDrop 39 = .ok (.getfield 36, 3) := by decide +kernel
theorem dX11_cutOrDrop_42 : decode cX11_cutOrDrop 42 = .ok (.iload_n 1, 1) := by decide +kernel
theorem dX11_cutOrDrop_43 : decode cX11_cutOrDrop 43 = .ok (.iaload, 1) := by decide +kernel
theorem dX11_cutOrDrop_44 : decode cX11_cutOrDrop 44 = .ok (.bipush 12, 2) := by decide +kernel
theorem dX11_cutOrDrop_46 : decode cX11_cutOrDrop 46 = .ok (.if_icmp .ne 12, 3) := by decide +kernel
theorem dX11_cutOrDrop_49 : decode cX11_cutOrDrop 49 = .ok (.aload_n 0, 1) := by decide +kernel
theorem dX11_cutOrDrop_50 : decode cX11_cutOrDrop 50 = .ok (.lload_n 2, 1) := by decide +kernel
theorem dX11_cutOrDrop_51 : decode cX11_cutOrDrop 51 = .ok (.l2i, 1) := by decide +kernel
theorem dX11_cutOrDrop_52 : decode cX11_cutOrDrop 52 = .ok (.invokevirtual 265, 3) := by decide +kernel
theorem dX11_cutOrDrop_55 : decode cX11_cutOrDrop 55 = .ok (.goto 35, 3) := by decide +kernel
theorem dX11_cutOrDrop_58 : decode cX11_cutOrDrop 58 = .ok (.lload_n 2, 1) := by decide +kernel
theorem dX11_cutOrDrop_59 : decode cX11_cutOrDrop 59 = .ok (.lconst 0, 1) := by decide +kernel
theorem dX11_cutOrDrop_60 : decode cX11_cutOrDrop 60 = .ok (.lcmp, 1) := by decide +kernel
theorem dX11_cutOrDrop_61 : decode cX11_cutOrDrop 61 = .ok (.ifCond .ge 7, 3) := by decide +kernel
theorem dX11_cutOrDrop_64 : decode cX11_cutOrDrop 64 = .ok (.iconst (-1), 1) := by decide +kernel
theorem dX11_cutOrDrop_65 : decode cX11_cutOrDrop 65 = .ok (.goto 9, 3) := by decide +kernel
theorem dX11_cutOrDrop_68 : decode cX11_cutOrDrop 68 = .ok (.aload_n 0, 1) := by decide +kernel
theorem dX11_cutOrDrop_69 : decode cX11_cutOrDrop 69 = .ok (.lload_n 2, 1) := by decide +kernel
theorem dX11_cutOrDrop_70 : decode cX11_cutOrDrop 70 = .ok (.l2i, 1) := by decide +kernel
theorem dX11_cutOrDrop_71 : decode cX11_cutOrDrop 71 = .ok (.invokevirtual 190, 3) := by decide +kernel
theorem dX11_cutOrDrop_74 : decode cX11_cutOrDrop 74 = .ok (.istore 4, 2) := by decide +kernel
theorem dX11_cutOrDrop_76 : decode cX11_cutOrDrop 76 = .ok (.iload 4, 2) := by decide +kernel
theorem dX11_cutOrDrop_78 : decode cX11_cutOrDrop 78 = .ok (.iconst (-1), 1) := by decide +kernel
theorem dX11_cutOrDrop_79 : decode cX11_cutOrDrop 79 = .ok (.if_icmp .eq 11, 3) := by decide +kernel
theorem dX11_cutOrDrop_82 : decode cX11_cutOrDrop 82 = .ok (.aload_n 0, 1) := by decide +kernel
theorem dX11_cutOrDrop_83 : decode cX11_cutOrDrop 83 = .ok (.getfield 91, 3) := by decide +kernel
theorem dX11_cutOrDrop_86 : decode cX11_cutOrDrop 86 = .ok (.iload 4, 2) := by decide +kernel
theorem dX11_cutOrDrop_88 : decode cX11_cutOrDrop 88 = .ok (.iconst 1, 1) := by decide +kernel
theorem dX11_cutOrDrop_89 : decode cX11_cutOrDrop 89 = .ok (.bastore, 1) := by decide +kernel
theorem dX11_cutOrDrop_90 : decode cX11_cutOrDrop 90 = .ok (.return_, 1) := by decide +kernel
theorem dX11_step_0 : decode cX11_step 0 = .ok (.aload_n 0, 1) := by decide +kernel
theorem dX11_step_1 : decode cX11_step 1 = .ok (.dup, 1) := by decide +kernel
theorem dX11_step_2 : decode cX11_step 2 = .ok (.getfield 278, 3) := by decide +kernel
theorem dX11_step_5 : decode cX11_step 5 = .ok (.iconst 1, 1) := by decide +kernel
theorem dX11_step_6 : decode cX11_step 6 = .ok (.iadd, 1) := by decide +kernel
theorem dX11_step_7 : decode cX11_step 7 = .ok (.putfield 278, 3) := by decide +kernel
theorem dX11_step_10 : decode cX11_step 10 = .ok (.aload_n 0, 1) := by decide +kernel
theorem dX11_step_11 : decode cX11_step 11 = .ok (.getfield 79, 3) := by decide +kernel
theorem dX11_step_14 : decode cX11_step 14 = .ok (.aload_n 0, 1) := by decide +kernel
theorem dX11_step_15 : decode cX11_step 15 = .ok (.getfield 203, 3) := by decide +kernel
theorem dX11_step_18 : decode cX11_step 18 = .ok (.iaload, 1) := by decide +kernel
theorem dX11_step_19 : decode cX11_step 19 = .ok (.istore_n 1, 1) := by decide +kernel
theorem dX11_step_20 : decode cX11_step 20 = .ok (.aload_n 0, 1) := by decide +kernel
theorem dX11_step_21 : decode cX11_step 21 = .ok (.getfield 73, 3) := by decide +kernel
theorem dX11_step_24 : decode cX11_step 24 = .ok (.aload_n 0, 1) := by decide +kernel
theorem dX11_step_25 : decode cX11_step 25 = .ok (.getfield 203, 3) := by decide +kernel
theorem dX11_step_28 : decode cX11_step 28 = .ok (.iaload, 1) := by decide +kernel
theorem dX11_step_29 : decode cX11_step 29 = .ok (.istore_n 2, 1) := by decide +kernel
theorem dX11_step_30 : decode cX11_step 30 = .ok (.iload_n 1, 1) := by decide +kernel
theorem dX11_step_31 : decode cX11_step 31 = .ok (.aload_n 0, 1) := by decide +kernel
theorem dX11_step_32 : decode cX11_step 32 = .ok (.getfield 29, 3) := by decide +kernel
theorem dX11_step_35 : decode cX11_step 35 = .ok (.iload_n 2, 1) := by decide +kernel
theorem dX11_step_36 : decode cX11_step 36 = .ok (.iaload, 1) := by decide +kernel
theorem dX11_step_37 : decode cX11_step 37 = .ok (.if_icmp .lt 8, 3) := by decide +kernel
theorem dX11_step_40 : decode cX11_step 40 = .ok (.aload_n 0, 1) := by decide +kernel
theorem dX11_step_41 : decode cX11_step 41 = .ok (.invokevirtual 255, 3) := by decide +kernel
theorem dX11_step_44 : decode cX11_step 44 = .ok (.return_, 1) := by decide +kernel
theorem dX11_step_45 : decode cX11_step 45 = .ok (.aload_n 0, 1) := by decide +kernel
theorem dX11_step_46 : decode cX11_step 46 = .ok (.getfield 33, 3) := by decide +kernel
theorem dX11_step_49 : decode cX11_step 49 = .ok (.sipush 2000, 3) := by decide +kernel
theorem dX11_step_52 : decode cX11_step 52 = .ok (.iload_n 2, 1) := by decide +kernel
theorem dX11_step_53 : decode cX11_step 53 = .ok (.imul, 1) := by decide +kernel
theorem dX11_step_54 : decode cX11_step 54 = .ok (.iload_n 1, 1) := by decide +kernel
theorem dX11_step_55 : decode cX11_step 55 = .ok (.iadd, 1) := by decide +kernel
theorem dX11_step_56 : decode cX11_step 56 = .ok (.iaload, 1) := by decide +kernel
theorem dX11_step_57 : decode cX11_step 57 = .ok (.istore_n 3, 1) := by decide +kernel
theorem dX11_step_58 : decode cX11_step 58 = .ok (.aload_n 0, 1) := by decide +kernel
theorem dX11_step_59 : decode cX11_step 59 = .ok (.getfield 36, 3) := by decide +kernel
theorem dX11_step_62 : decode cX11_step 62 = .ok (.iload_n 3, 1) := by decide +kernel
theorem dX11_step_63 : decode cX11_step 63 = .ok (.iaload, 1) := by decide +kernel
theorem dX11_step_64 : decode cX11_step 64 = .ok (.tableswitch 295 0 14 #[76, 96, 119, 132, 174, 180, 186, 192, 208, 254, 260, 266, 284, 284, 290], 76) := by decide +kernel
theorem dX11_step_140 : decode cX11_step 140 = .ok (.aload_n 0, 1) := by decide +kernel
theorem dX11_step_141 : decode cX11_step 141 = .ok (.aload_n 0, 1) := by decide +kernel
theorem dX11_step_142 : decode cX11_step 142 = .ok (.getfield 39, 3) := by decide +kernel
theorem dX11_step_145 : decode cX11_step 145 = .ok (.iload_n 3, 1) := by decide +kernel
theorem dX11_step_146 : decode cX11_step 146 = .ok (.iaload, 1) := by decide +kernel
theorem dX11_step_147 : decode cX11_step 147 = .ok (.aload_n 0, 1) := by decide +kernel
theorem dX11_step_148 : decode cX11_step 148 = .ok (.getfield 42, 3) := by decide +kernel
theorem dX11_step_151 : decode cX11_step 151 = .ok (.iload_n 3, 1) := by decide +kernel
theorem dX11_step_152 : decode cX11_step 152 = .ok (.iaload, 1) := by decide +kernel
theorem dX11_step_153 : decode cX11_step 153 = .ok (.i2l, 1) := by decide +kernel
theorem dX11_step_154 : decode cX11_step 154 = .ok (.invokevirtual 247, 3) := by decide +kernel
theorem dX11_step_157 : decode cX11_step 157 = .ok (.goto 207, 3) := by decide +kernel
theorem dX11_step_160 : decode cX11_step 160 = .ok (.aload_n 0, 1) := by decide +kernel
theorem dX11_step_161 : decode cX11_step 161 = .ok (.aload_n 0, 1) := by decide +kernel
theorem dX11_step_162 : decode cX11_step 162 = .ok (.getfield 39, 3) := by decide +kernel
theorem dX11_step_165 : decode cX11_step 165 = .ok (.iload_n 3, 1) := by decide +kernel
theorem dX11_step_166 : decode cX11_step 166 = .ok (.iaload, 1) := by decide +kernel
theorem dX11_step_167 : decode cX11_step 167 = .ok (.aload_n 0, 1) := by decide +kernel
theorem dX11_step_168 : decode cX11_step 168 = .ok (.aload_n 0, 1) := by decide +kernel
theorem dX11_step_169 : decode cX11_step 169 = .ok (.getfield 42, 3) := by decide +kernel
theorem dX11_step_172 : decode cX11_step 172 = .ok (.iload_n 3, 1) := by decide +kernel
theorem dX11_step_173 : decode cX11_step 173 = .ok (.iaload, 1) := by decide +kernel
theorem dX11_step_174 : decode cX11_step 174 = .ok (.invokevirtual 240, 3) := by decide +kernel
theorem dX11_step_177 : decode cX11_step 177 = .ok (.invokevirtual 247, 3) := by decide +kernel
theorem dX11_step_180 : decode cX11_step 180 = .ok (.goto 184, 3) := by decide +kernel
theorem dX11_step_183 : decode cX11_step 183 = .ok (.aload_n 0, 1) := by decide +kernel
theorem dX11_step_184 : decode cX11_step 184 = .ok (.iload_n 3, 1) := by decide +kernel
theorem dX11_step_185 : decode cX11_step 185 = .ok (.invokevirtual 281, 3) := by decide +kernel
theorem dX11_step_188 : decode cX11_step 188 = .ok (.aload_n 0, 1) := by decide +kernel
theorem dX11_step_189 : decode cX11_step 189 = .ok (.getfield 116, 3) := by decide +kernel
theorem dX11_step_192 : decode cX11_step 192 = .ok (.ifCond .eq 172, 3) := by decide +kernel
theorem dX11_step_195 : decode cX11_step 195 = .ok (.return_, 1) := by decide +kernel
theorem dX11_step_196 : decode cX11_step 196 = .ok (.aload_n 0, 1) := by decide +kernel
theorem dX11_step_197 : decode cX11_step 197 = .ok (.aload_n 0, 1) := by decide +kernel
theorem dX11_step_198 : decode cX11_step 198 = .ok (.aload_n 0, 1) := by decide +kernel
theorem dX11_step_199 : decode cX11_step 199 = .ok (.getfield 39, 3) := by decide +kernel
theorem dX11_step_202 : decode cX11_step 202 = .ok (.iload_n 3, 1) := by decide +kernel
theorem dX11_step_203 : decode cX11_step 203 = .ok (.iaload, 1) := by decide +kernel
theorem dX11_step_204 : decode cX11_step 204 = .ok (.invokevirtual 240, 3) := by decide +kernel
theorem dX11_step_207 : decode cX11_step 207 = .ok (.aload_n 0, 1) := by decide +kernel
theorem dX11_step_208 : decode cX11_step 208 = .ok (.getfield 42, 3) := by decide +kernel
theorem dX11_step_211 : decode cX11_step 211 = .ok (.iload_n 3, 1) := by decide +kernel
theorem dX11_step_212 : decode cX11_step 212 = .ok (.iaload, 1) := by decide +kernel
theorem dX11_step_213 : decode cX11_step 213 = .ok (.aload_n 0, 1) := by decide +kernel
theorem dX11_step_214 : decode cX11_step 214 = .ok (.getfield 51, 3) := by decide +kernel
theorem dX11_step_217 : decode cX11_step 217 = .ok (.iload_n 3, 1) := by decide +kernel
theorem dX11_step_218 : decode cX11_step 218 = .ok (.iaload, 1) := by decide +kernel
theorem dX11_step_219 : decode cX11_step 219 = .ok (.invokevirtual 251, 3) := by decide +kernel
theorem dX11_step_222 : decode cX11_step 222 = .ok (.ifCond .ne 8, 3) := by decide +kernel
theorem dX11_step_225 : decode cX11_step 225 = .ok (.aload_n 0, 1) := by decide +kernel
theorem dX11_step_226 : decode cX11_step 226 = .ok (.invokevirtual 255, 3) := by decide +kernel
theorem dX11_step_229 : decode cX11_step 229 = .ok (.return_, 1) := by decide +kernel
theorem dX11_step_230 : decode cX11_step 230 = .ok (.aload_n 0, 1) := by decide +kernel
theorem dX11_step_231 : decode cX11_step 231 = .ok (.iload_n 3, 1) := by decide +kernel
theorem dX11_step_232 : decode cX11_step 232 = .ok (.invokevirtual 284, 3) := by decide +kernel
theorem dX11_step_235 : decode cX11_step 235 = .ok (.goto 129, 3) := by decide +kernel
theorem dX11_step_238 : decode cX11_step 238 = .ok (.aload_n 0, 1) := by decide +kernel
theorem dX11_step_239 : decode cX11_step 239 = .ok (.iload_n 3, 1) := by decide +kernel
theorem dX11_step_240 : decode cX11_step 240 = .ok (.invokevirtual 287, 3) := by decide +kernel
theorem dX11_step_243 : decode cX11_step 243 = .ok (.return_, 1) := by decide +kernel
theorem dX11_step_244 : decode cX11_step 244 = .ok (.aload_n 0, 1) := by decide +kernel
theorem dX11_step_245 : decode cX11_step 245 = .ok (.iload_n 3, 1) := by decide +kernel
theorem dX11_step_246 : decode cX11_step 246 = .ok (.invokevirtual 290, 3) := by decide +kernel
theorem dX11_step_249 : decode cX11_step 249 = .ok (.return_, 1) := by decide +kernel
theorem dX11_step_250 : decode cX11_step 250 = .ok (.aload_n 0, 1) := by decide +kernel
theorem dX11_step_251 : decode cX11_step 251 = .ok (.iload_n 3, 1) := by decide +kernel
theorem dX11_step_252 : decode cX11_step 252 = .ok (.invokevirtual 293, 3) := by decide +kernel
theorem dX11_step_255 : decode cX11_step 255 = .ok (.return_, 1) := by decide +kernel
theorem dX11_step_256 : decode cX11_step 256 = .ok (.aload_n 0, 1) := by decide +kernel
theorem dX11_step_257 : decode cX11_step 257 = .ok (.getfield 79, 3) := by decide +kernel
theorem dX11_step_260 : decode cX11_step 260 = .ok (.aload_n 0, 1) := by decide +kernel
theorem dX11_step_261 : decode cX11_step 261 = .ok (.getfield 203, 3) := by decide +kernel
theorem dX11_step_264 : decode cX11_step 264 = .ok (.aload_n 0, 1) := by decide +kernel
theorem dX11_step_265 : decode cX11_step 265 = .ok (.getfield 39, 3) := by decide +kernel
theorem dX11_step_268 : decode cX11_step 268 = .ok (.iload_n 3, 1) := by decide +kernel
theorem dX11_step_269 : decode cX11_step 269 = .ok (.iaload, 1) := by decide +kernel
theorem dX11_step_270 : decode cX11_step 270 = .ok (.iastore, 1) := by decide +kernel
theorem dX11_step_271 : decode cX11_step 271 = .ok (.return_, 1) := by decide +kernel
theorem dX11_step_272 : decode cX11_step 272 = .ok (.aload_n 0, 1) := by decide +kernel
theorem dX11_step_273 : decode cX11_step 273 = .ok (.getfield 79, 3) := by decide +kernel
theorem dX11_step_276 : decode cX11_step 276 = .ok (.aload_n 0, 1) := by decide +kernel
theorem dX11_step_277 : decode cX11_step 277 = .ok (.getfield 203, 3) := by decide +kernel
theorem dX11_step_280 : decode cX11_step 280 = .ok (.aload_n 0, 1) := by decide +kernel
theorem dX11_step_281 : decode cX11_step 281 = .ok (.aload_n 0, 1) := by decide +kernel
theorem dX11_step_282 : decode cX11_step 282 = .ok (.aload_n 0, 1) := by decide +kernel
theorem dX11_step_283 : decode cX11_step 283 = .ok (.getfield 39, 3) := by decide +kernel
theorem dX11_step_286 : decode cX11_step 286 = .ok (.iload_n 3, 1) := by decide +kernel
theorem dX11_step_287 : decode cX11_step 287 = .ok (.iaload, 1) := by decide +kernel
theorem dX11_step_288 : decode cX11_step 288 = .ok (.invokevirtual 240, 3) := by decide +kernel
theorem dX11_step_291 : decode cX11_step 291 = .ok (.aload_n 0, 1) := by decide +kernel
theorem dX11_step_292 : decode cX11_step 292 = .ok (.getfield 42, 3) := by decide +kernel
theorem dX11_step_295 : decode cX11_step 295 = .ok (.iload_n 3, 1) := by decide +kernel
theorem dX11_step_296 : decode cX11_step 296 = .ok (.iaload, 1) := by decide +kernel
theorem dX11_step_297 : decode cX11_step 297 = .ok (.iconst (-1), 1) := by decide +kernel
theorem dX11_step_298 : decode cX11_step 298 = .ok (.invokevirtual 251, 3) := by decide +kernel
theorem dX11_step_301 : decode cX11_step 301 = .ok (.ifCond .eq 9, 3) := by decide +kernel
theorem dX11_step_304 : decode cX11_step 304 = .ok (.iload_n 1, 1) := by decide +kernel
theorem dX11_step_305 : decode cX11_step 305 = .ok (.iconst 1, 1) := by decide +kernel
theorem dX11_step_306 : decode cX11_step 306 = .ok (.iadd, 1) := by decide +kernel
theorem dX11_step_307 : decode cX11_step 307 = .ok (.goto 9, 3) := by decide +kernel
theorem dX11_step_310 : decode cX11_step 310 = .ok (.aload_n 0, 1) := by decide +kernel
theorem dX11_step_311 : decode cX11_step 311 = .ok (.getfield 45, 3) := by decide +kernel
theorem dX11_step_314 : decode cX11_step 314 = .ok (.iload_n 3, 1) := by decide +kernel
theorem dX11_step_315 : decode cX11_step 315 = .ok (.iaload, 1) := by decide +kernel
theorem dX11_step_316 : decode cX11_step 316 = .ok (.iastore, 1) := by decide +kernel
theorem dX11_step_317 : decode cX11_step 317 = .ok (.return_, 1) := by decide +kernel
theorem dX11_step_318 : decode cX11_step 318 = .ok (.aload_n 0, 1) := by decide +kernel
theorem dX11_step_319 : decode cX11_step 319 = .ok (.iload_n 3, 1) := by decide +kernel
theorem dX11_step_320 : decode cX11_step 320 = .ok (.invokevirtual 296, 3) := by decide +kernel
theorem dX11_step_323 : decode cX11_step 323 = .ok (.return_, 1) := by decide +kernel
theorem dX11_step_324 : decode cX11_step 324 = .ok (.aload_n 0, 1) := by decide +kernel
theorem dX11_step_325 : decode cX11_step 325 = .ok (.iload_n 3, 1) := by decide +kernel
theorem dX11_step_326 : decode cX11_step 326 = .ok (.invokevirtual 299, 3) := by decide +kernel
theorem dX11_step_329 : decode cX11_step 329 = .ok (.return_, 1) := by decide +kernel
theorem dX11_step_330 : decode cX11_step 330 = .ok (.aload_n 0, 1) := by decide +kernel
theorem dX11_step_331 : decode cX11_step 331 = .ok (.aload_n 0, 1) := by decide +kernel
theorem dX11_step_332 : decode cX11_step 332 = .ok (.getfield 39, 3) := by decide +kernel
theorem dX11_step_335 : decode cX11_step 335 = .ok (.iload_n 3, 1) := by decide +kernel
theorem dX11_step_336 : decode cX11_step 336 = .ok (.iaload, 1) := by decide +kernel
theorem dX11_step_337 : decode cX11_step 337 = .ok (.aload_n 0, 1) := by decide +kernel
theorem dX11_step_338 : decode cX11_step 338 = .ok (.invokevirtual 183, 3) := by decide +kernel
theorem dX11_step_341 : decode cX11_step 341 = .ok (.i2l, 1) := by decide +kernel
theorem dX11_step_342 : decode cX11_step 342 = .ok (.invokevirtual 247, 3) := by decide +kernel
theorem dX11_step_345 : decode cX11_step 345 = .ok (.goto 19, 3) := by decide +kernel
theorem dX11_step_348 : decode cX11_step 348 = .ok (.aload_n 0, 1) := by decide +kernel
theorem dX11_step_349 : decode cX11_step 349 = .ok (.iload_n 3, 1) := by decide +kernel
theorem dX11_step_350 : decode cX11_step 350 = .ok (.invokevirtual 302, 3) := by decide +kernel
theorem dX11_step_353 : decode cX11_step 353 = .ok (.return_, 1) := by decide +kernel
theorem dX11_step_354 : decode cX11_step 354 = .ok (.aload_n 0, 1) := by decide +kernel
theorem dX11_step_355 : decode cX11_step 355 = .ok (.invokevirtual 305, 3) := by decide +kernel
theorem dX11_step_358 : decode cX11_step 358 = .ok (.return_, 1) := by decide +kernel
theorem dX11_step_359 : decode cX11_step 359 = .ok (.aload_n 0, 1) := by decide +kernel
theorem dX11_step_360 : decode cX11_step 360 = .ok (.invokevirtual 255, 3) := by decide +kernel
theorem dX11_step_363 : decode cX11_step 363 = .ok (.return_, 1) := by decide +kernel
theorem dX11_step_364 : decode cX11_step 364 = .ok (.aload_n 0, 1) := by decide +kernel
end
section
theorem dX11_step_365 : decode cX11_step 365 = .ok (.getfield 79, 3) := by decide +kernel
theorem dX11_step_368 : decode cX11_step 368 = .ok (.aload_n 0, 1) := by decide +kernel
theorem dX11_step_369 : decode cX11_step 369 = .ok (.getfield 203, 3) := by decide +kernel
theorem dX11_step_372 : decode cX11_step 372 = .ok (.dup2, 1) := by decide +kernel
theorem dX11_step_373 : decode cX11_step 373 = .ok (.iaload, 1) := by decide +kernel
theorem dX11_step_374 : decode cX11_step 374 = .ok (.iconst 1, 1) := by decide +kernel
theorem dX11_step_375 : decode cX11_step 375 = .ok (.iadd, 1) := by decide +kernel
theorem dX11_step_376 : decode cX11_step 376 = .ok (.iastore, 1) := by decide +kernel
theorem dX11_step_377 : decode cX11_step 377 = .ok (.return_, 1) := by decide +kernel
theorem dX11_begin_0 : decode cX11_begin 0 = .ok (.aload_n 0, 1) := by decide +kernel
theorem dX11_begin_1 : decode cX11_begin 1 = .ok (.iconst 0, 1) := by decide +kernel
theorem dX11_begin_2 : decode cX11_begin 2 = .ok (.putfield 132, 3) := by decide +kernel
theorem dX11_begin_5 : decode cX11_begin 5 = .ok (.aload_n 0, 1) := by decide +kernel
theorem dX11_begin_6 : decode cX11_begin 6 = .ok (.invokevirtual 142, 3) := by decide +kernel
theorem dX11_begin_9 : decode cX11_begin 9 = .ok (.istore 4, 2) := by decide +kernel
theorem dX11_begin_11 : decode cX11_begin 11 = .ok (.iload_n 1, 1) := by decide +kernel
theorem dX11_begin_12 : decode cX11_begin 12 = .ok (.iconst 0, 1) := by decide +kernel
theorem dX11_begin_13 : decode cX11_begin 13 = .ok (.aload_n 0, 1) := by decide +kernel
theorem dX11_begin_14 : decode cX11_begin 14 = .ok (.getfield 146, 3) := by decide +kernel
theorem dX11_begin_17 : decode cX11_begin 17 = .ok (.iconst 1, 1) := by decide +kernel
theorem dX11_begin_18 : decode cX11_begin 18 = .ok (.isub, 1) := by decide +kernel
theorem dX11_begin_19 : decode cX11_begin 19 = .ok (.invokestatic 138, 3) := by decide +kernel
theorem dX11_begin_22 : decode cX11_begin 22 = .ok (.ifCond .eq 52, 3) := by decide +kernel
theorem dX11_begin_25 : decode cX11_begin 25 = .ok (.iload 4, 2) := by decide +kernel
theorem dX11_begin_27 : decode cX11_begin 27 = .ok (.aload_n 0, 1) := by decide +kernel
theorem dX11_begin_28 : decode cX11_begin 28 = .ok (.getfield 20, 3) := by decide +kernel
theorem dX11_begin_31 : decode cX11_begin 31 = .ok (.iload_n 1, 1) := by decide +kernel
theorem dX11_begin_32 : decode cX11_begin 32 = .ok (.iaload, 1) := by decide +kernel
theorem dX11_begin_33 : decode cX11_begin 33 = .ok (.if_icmp .ne 41, 3) := by decide +kernel
theorem dX11_begin_36 : decode cX11_begin 36 = .ok (.iload_n 2, 1) := by decide +kernel
theorem dX11_begin_37 : decode cX11_begin 37 = .ok (.iconst 0, 1) := by decide +kernel
theorem dX11_begin_38 : decode cX11_begin 38 = .ok (.sipush 20000, 3) := by decide +kernel
theorem dX11_begin_41 : decode cX11_begin 41 = .ok (.invokestatic 138, 3) := by decide +kernel
theorem dX11_begin_44 : decode cX11_begin 44 = .ok (.ifCond .eq 30, 3) := by decide +kernel
theorem dX11_begin_47 : decode cX11_begin 47 = .ok (.iload_n 3, 1) := by decide +kernel
theorem dX11_begin_48 : decode cX11_begin 48 = .ok (.iconst 0, 1) := by decide +kernel
theorem dX11_begin_49 : decode cX11_begin 49 = .ok (.sipush 20000, 3) := by decide +kernel
theorem dX11_begin_52 : decode cX11_begin 52 = .ok (.invokestatic 138, 3) := by decide +kernel
theorem dX11_begin_55 : decode cX11_begin 55 = .ok (.ifCond .eq 19, 3) := by decide +kernel
theorem dX11_begin_58 : decode cX11_begin 58 = .ok (.iconst 2, 1) := by decide +kernel
theorem dX11_begin_59 : decode cX11_begin 59 = .ok (.aload_n 0, 1) := by decide +kernel
theorem dX11_begin_60 : decode cX11_begin 60 = .ok (.getfield 17, 3) := by decide +kernel
theorem dX11_begin_63 : decode cX11_begin 63 = .ok (.iload_n 1, 1) := by decide +kernel
theorem dX11_begin_64 : decode cX11_begin 64 = .ok (.iaload, 1) := by decide +kernel
theorem dX11_begin_65 : decode cX11_begin 65 = .ok (.iadd, 1) := by decide +kernel
theorem dX11_begin_66 : decode cX11_begin 66 = .ok (.iload_n 2, 1) := by decide +kernel
theorem dX11_begin_67 : decode cX11_begin 67 = .ok (.if_icmp .gt 7, 3) := by decide +kernel
theorem dX11_begin_70 : decode cX11_begin 70 = .ok (.iconst 1, 1) := by decide +kernel
theorem dX11_begin_71 : decode cX11_begin 71 = .ok (.goto 4, 3) := by decide +kernel
theorem dX11_begin_74 : decode cX11_begin 74 = .ok (.iconst 0, 1) := by decide +kernel
theorem dX11_begin_75 : decode cX11_begin 75 = .ok (.istore 5, 2) := by decide +kernel
theorem dX11_begin_77 : decode cX11_begin 77 = .ok (.iload 5, 2) := by decide +kernel
theorem dX11_begin_79 : decode cX11_begin 79 = .ok (.ifCond .ne 5, 3) := by decide +kernel
theorem dX11_begin_82 : decode cX11_begin 82 = .ok (.iconst 0, 1) := by decide +kernel
theorem dX11_begin_83 : decode cX11_begin 83 = .ok (.ireturn, 1) := by decide +kernel
theorem dX11_begin_84 : decode cX11_begin 84 = .ok (.aload_n 0, 1) := by decide +kernel
theorem dX11_begin_85 : decode cX11_begin 85 = .ok (.iconst 0, 1) := by decide +kernel
theorem dX11_begin_86 : decode cX11_begin 86 = .ok (.putfield 173, 3) := by decide +kernel
theorem dX11_begin_89 : decode cX11_begin 89 = .ok (.aload_n 0, 1) := by decide +kernel
theorem dX11_begin_90 : decode cX11_begin 90 = .ok (.iconst 0, 1) := by decide +kernel
theorem dX11_begin_91 : decode cX11_begin 91 = .ok (.putfield 180, 3) := by decide +kernel
theorem dX11_begin_94 : decode cX11_begin 94 = .ok (.aload_n 0, 1) := by decide +kernel
theorem dX11_begin_95 : decode cX11_begin 95 = .ok (.iconst 0, 1) := by decide +kernel
theorem dX11_begin_96 : decode cX11_begin 96 = .ok (.putfield 217, 3) := by decide +kernel
theorem dX11_begin_99 : decode cX11_begin 99 = .ok (.aload_n 0, 1) := by decide +kernel
theorem dX11_begin_100 : decode cX11_begin 100 = .ok (.iconst 0, 1) := by decide +kernel
theorem dX11_begin_101 : decode cX11_begin 101 = .ok (.putfield 234, 3) := by decide +kernel
theorem dX11_begin_104 : decode cX11_begin 104 = .ok (.aload_n 0, 1) := by decide +kernel
theorem dX11_begin_105 : decode cX11_begin 105 = .ok (.iconst 0, 1) := by decide +kernel
theorem dX11_begin_106 : decode cX11_begin 106 = .ok (.putfield 237, 3) := by decide +kernel
theorem dX11_begin_109 : decode cX11_begin 109 = .ok (.aload_n 0, 1) := by decide +kernel
theorem dX11_begin_110 : decode cX11_begin 110 = .ok (.iconst 0, 1) := by decide +kernel
theorem dX11_begin_111 : decode cX11_begin 111 = .ok (.putfield 228, 3) := by decide +kernel
theorem dX11_begin_114 : decode cX11_begin 114 = .ok (.aload_n 0, 1) := by decide +kernel
theorem dX11_begin_115 : decode cX11_begin 115 = .ok (.iconst 0, 1) := by decide +kernel
theorem dX11_begin_116 : decode cX11_begin 116 = .ok (.putfield 244, 3) := by decide +kernel
theorem dX11_begin_119 : decode cX11_begin 119 = .ok (.aload_n 0, 1) := by decide +kernel
theorem dX11_begin_120 : decode cX11_begin 120 = .ok (.iconst 0, 1) := by decide +kernel
theorem dX11_begin_121 : decode cX11_begin 121 = .ok (.putfield 167, 3) := by decide +kernel
theorem dX11_begin_124 : decode cX11_begin 124 = .ok (.aload_n 0, 1) := by decide +kernel
theorem dX11_begin_125 : decode cX11_begin 125 = .ok (.iconst 0, 1) := by decide +kernel
theorem dX11_begin_126 : decode cX11_begin 126 = .ok (.putfield 170, 3) := by decide +kernel
theorem dX11_begin_129 : decode cX11_begin 129 = .ok (.aload_n 0, 1) := by decide +kernel
theorem dX11_begin_130 : decode cX11_begin 130 = .ok (.iconst 0, 1) := by decide +kernel
theorem dX11_begin_131 : decode cX11_begin 131 = .ok (.putfield 278, 3) := by decide +kernel
theorem dX11_begin_134 : decode cX11_begin 134 = .ok (.aload_n 0, 1) := by decide +kernel
theorem dX11_begin_135 : decode cX11_begin 135 = .ok (.iconst 0, 1) := by decide +kernel
theorem dX11_begin_136 : decode cX11_begin 136 = .ok (.putfield 268, 3) := by decide +kernel
theorem dX11_begin_139 : decode cX11_begin 139 = .ok (.aload_n 0, 1) := by decide +kernel
theorem dX11_begin_140 : decode cX11_begin 140 = .ok (.iconst 0, 1) := by decide +kernel
theorem dX11_begin_141 : decode cX11_begin 141 = .ok (.putfield 116, 3) := by decide +kernel
theorem dX11_begin_144 : decode cX11_begin 144 = .ok (.aload_n 0, 1) := by decide +kernel
theorem dX11_begin_145 : decode cX11_begin 145 = .ok (.iload_n 2, 1) := by decide +kernel
theorem dX11_begin_146 : decode cX11_begin 146 = .ok (.putfield 258, 3) := by decide +kernel
theorem dX11_begin_149 : decode cX11_begin 149 = .ok (.aload_n 0, 1) := by decide +kernel
theorem dX11_begin_150 : decode cX11_begin 150 = .ok (.iload_n 3, 1) := by decide +kernel
theorem dX11_begin_151 : decode cX11_begin 151 = .ok (.putfield 231, 3) := by decide +kernel
theorem dX11_begin_154 : decode cX11_begin 154 = .ok (.aload_n 0, 1) := by decide +kernel
theorem dX11_begin_155 : decode cX11_begin 155 = .ok (.iload_n 1, 1) := by decide +kernel
theorem dX11_begin_156 : decode cX11_begin 156 = .ok (.iconst (-1), 1) := by decide +kernel
theorem dX11_begin_157 : decode cX11_begin 157 = .ok (.iconst (-1), 1) := by decide +kernel
theorem dX11_begin_158 : decode cX11_begin 158 = .ok (.invokevirtual 261, 3) := by decide +kernel
theorem dX11_begin_161 : decode cX11_begin 161 = .ok (.iconst 0, 1) := by decide +kernel
theorem dX11_begin_162 : decode cX11_begin 162 = .ok (.istore 6, 2) := by decide +kernel
theorem dX11_begin_164 : decode cX11_begin 164 = .ok (.iload 6, 2) := by decide +kernel
theorem dX11_begin_166 : decode cX11_begin 166 = .ok (.iload 4, 2) := by decide +kernel
theorem dX11_begin_168 : decode cX11_begin 168 = .ok (.if_icmp .ge 24, 3) := by decide +kernel
theorem dX11_begin_171 : decode cX11_begin 171 = .ok (.aload_n 0, 1) := by decide +kernel
theorem dX11_begin_172 : decode cX11_begin 172 = .ok (.getfield 106, 3) := by decide +kernel
theorem dX11_begin_175 : decode cX11_begin 175 = .ok (.iload 6, 2) := by decide +kernel
theorem dX11_begin_177 : decode cX11_begin 177 = .ok (.aload_n 0, 1) := by decide +kernel
theorem dX11_begin_178 : decode cX11_begin 178 = .ok (.getfield 7, 3) := by decide +kernel
theorem dX11_begin_181 : decode cX11_begin 181 = .ok (.iload 6, 2) := by decide +kernel
theorem dX11_begin_183 : decode cX11_begin 183 = .ok (.iaload, 1) := by decide +kernel
theorem dX11_begin_184 : decode cX11_begin 184 = .ok (.i2l, 1) := by decide +kernel
theorem dX11_begin_185 : decode cX11_begin 185 = .ok (.lastore, 1) := by decide +kernel
theorem dX11_begin_186 : decode cX11_begin 186 = .ok (.iinc 6 1, 3) := by decide +kernel
theorem dX11_begin_189 : decode cX11_begin 189 = .ok (.goto (-25), 3) := by decide +kernel
theorem dX11_begin_192 : decode cX11_begin 192 = .ok (.aload_n 0, 1) := by decide +kernel
theorem dX11_begin_193 : decode cX11_begin 193 = .ok (.iconst 0, 1) := by decide +kernel
theorem dX11_begin_194 : decode cX11_begin 194 = .ok (.putfield 203, 3) := by decide +kernel
theorem dX11_begin_197 : decode cX11_begin 197 = .ok (.iconst 1, 1) := by decide +kernel
theorem dX11_begin_198 : decode cX11_begin 198 = .ok (.ireturn, 1) := by decide +kernel
theorem dX11_run_0 : decode cX11_run 0 = .ok (.aload_n 0, 1) := by decide +kernel
theorem dX11_run_1 : decode cX11_run 1 = .ok (.iconst 0, 1) := by decide +kernel
theorem dX11_run_2 : decode cX11_run 2 = .ok (.putfield 132, 3) := by decide +kernel
theorem dX11_run_5 : decode cX11_run 5 = .ok (.iload_n 1, 1) := by decide +kernel
theorem dX11_run_6 : decode cX11_run 6 = .ok (.iconst 1, 1) := by decide +kernel
theorem dX11_run_7 : decode cX11_run 7 = .ok (.if_icmp .lt 18, 3) := by decide +kernel
theorem dX11_run_10 : decode cX11_run 10 = .ok (.aload_n 0, 1) := by decide +kernel
theorem dX11_run_11 : decode cX11_run 11 = .ok (.getfield 116, 3) := by decide +kernel
theorem dX11_run_14 : decode cX11_run 14 = .ok (.ifCond .eq 16, 3) := by decide +kernel
theorem dX11_run_17 : decode cX11_run 17 = .ok (.aload_n 0, 1) := by decide +kernel
theorem dX11_run_18 : decode cX11_run 18 = .ok (.getfield 116, 3) := by decide +kernel
theorem dX11_run_21 : decode cX11_run 21 = .ok (.iconst 1, 1) := by decide +kernel
theorem dX11_run_22 : decode cX11_run 22 = .ok (.if_icmp .eq 8, 3) := by decide +kernel
theorem dX11_run_25 : decode cX11_run 25 = .ok (.aload_n 0, 1) := by decide +kernel
theorem dX11_run_26 : decode cX11_run 26 = .ok (.getfield 116, 3) := by decide +kernel
theorem dX11_run_29 : decode cX11_run 29 = .ok (.ireturn, 1) := by decide +kernel
theorem dX11_run_30 : decode cX11_run 30 = .ok (.aload_n 0, 1) := by decide +kernel
theorem dX11_run_31 : decode cX11_run 31 = .ok (.getfield 116, 3) := by decide +kernel
theorem dX11_run_34 : decode cX11_run 34 = .ok (.iconst 1, 1) := by decide +kernel
theorem dX11_run_35 : decode cX11_run 35 = .ok (.if_icmp .ne 12, 3) := by decide +kernel
theorem dX11_run_38 : decode cX11_run 38 = .ok (.aload_n 0, 1) := by decide +kernel
theorem dX11_run_39 : decode cX11_run 39 = .ok (.iconst 0, 1) := by decide +kernel
theorem dX11_run_40 : decode cX11_run 40 = .ok (.putfield 116, 3) := by decide +kernel
theorem dX11_run_43 : decode cX11_run 43 = .ok (.aload_n 0, 1) := by decide +kernel
theorem dX11_run_44 : decode cX11_run 44 = .ok (.invokevirtual 255, 3) := by decide +kernel
theorem dX11_run_47 : decode cX11_run 47 = .ok (.iconst 0, 1) := by decide +kernel
theorem dX11_run_48 : decode cX11_run 48 = .ok (.istore_n 2, 1) := by decide +kernel
theorem dX11_run_49 : decode cX11_run 49 = .ok (.iload_n 2, 1) := by decide +kernel
theorem dX11_run_50 : decode cX11_run 50 = .ok (.iload_n 1, 1) := by decide +kernel
theorem dX11_run_51 : decode cX11_run 51 = .ok (.if_icmp .ge 38, 3) := by decide +kernel
theorem dX11_run_54 : decode cX11_run 54 = .ok (.aload_n 0, 1) := by decide +kernel
theorem dX11_run_55 : decode cX11_run 55 = .ok (.getfield 116, 3) := by decide +kernel
theorem dX11_run_58 : decode cX11_run 58 = .ok (.ifCond .ne 31, 3) := by decide +kernel
theorem dX11_run_61 : decode cX11_run 61 = .ok (.aload_n 0, 1) := by decide +kernel
theorem dX11_run_62 : decode cX11_run 62 = .ok (.getfield 278, 3) := by decide +kernel
theorem dX11_run_65 : decode cX11_run 65 = .ok (.sipush 20000, 3) := by decide +kernel
theorem dX11_run_68 : decode cX11_run 68 = .ok (.if_icmp .ne 11, 3) := by decide +kernel
theorem dX11_run_71 : decode cX11_run 71 = .ok (.aload_n 0, 1) := by decide +kernel
theorem dX11_run_72 : decode cX11_run 72 = .ok (.iconst 3, 1) := by decide +kernel
theorem dX11_run_73 : decode cX11_run 73 = .ok (.putfield 116, 3) := by decide +kernel
theorem dX11_run_76 : decode cX11_run 76 = .ok (.goto 7, 3) := by decide +kernel
theorem dX11_run_79 : decode cX11_run 79 = .ok (.aload_n 0, 1) := by decide +kernel
theorem dX11_run_80 : decode cX11_run 80 = .ok (.invokevirtual 308, 3) := by decide +kernel
theorem dX11_run_83 : decode cX11_run 83 = .ok (.iinc 2 1, 3) := by decide +kernel
theorem dX11_run_86 : decode cX11_run 86 = .ok (.goto (-37), 3) := by decide +kernel
theorem dX11_run_89 : decode cX11_run 89 = .ok (.aload_n 0, 1) := by decide +kernel
theorem dX11_run_90 : decode cX11_run 90 = .ok (.getfield 116, 3) := by decide +kernel
theorem dX11_run_93 : decode cX11_run 93 = .ok (.ireturn, 1) := by decide +kernel
theorem dX11_told_0 : decode cX11_told 0 = .ok (.aload_n 0, 1) := by decide +kernel
theorem dX11_told_1 : decode cX11_told 1 = .ok (.iconst 0, 1) := by decide +kernel
theorem dX11_told_2 : decode cX11_told 2 = .ok (.putfield 132, 3) := by decide +kernel
theorem dX11_told_5 : decode cX11_told 5 = .ok (.iload_n 1, 1) := by decide +kernel
theorem dX11_told_6 : decode cX11_told 6 = .ok (.tableswitch 100 0 8 #[50, 55, 60, 65, 70, 75, 80, 85, 90], 50) := by decide +kernel
theorem dX11_told_56 : decode cX11_told 56 = .ok (.aload_n 0, 1) := by decide +kernel
theorem dX11_told_57 : decode cX11_told 57 = .ok (.getfield 116, 3) := by decide +kernel
theorem dX11_told_60 : decode cX11_told 60 = .ok (.ireturn, 1) := by decide +kernel
theorem dX11_told_61 : decode cX11_told 61 = .ok (.aload_n 0, 1) := by decide +kernel
theorem dX11_told_62 : decode cX11_told 62 = .ok (.getfield 278, 3) := by decide +kernel
theorem dX11_told_65 : decode cX11_told 65 = .ok (.ireturn, 1) := by decide +kernel
theorem dX11_told_66 : decode cX11_told 66 = .ok (.aload_n 0, 1) := by decide +kernel
theorem dX11_told_67 : decode cX11_told 67 = .ok (.getfield 167, 3) := by decide +kernel
theorem dX11_told_70 : decode cX11_told 70 = .ok (.ireturn, 1) := by decide +kernel
theorem dX11_told_71 : decode cX11_told 71 = .ok (.aload_n 0, 1) := by decide +kernel
theorem dX11_told_72 : decode cX11_told 72 = .ok (.getfield 170, 3) := by decide +kernel
theorem dX11_told_75 : decode cX11_told 75 = .ok (.ireturn, 1) := by decide +kernel
theorem dX11_told_76 : decode cX11_told 76 = .ok (.aload_n 0, 1) := by decide +kernel
theorem dX11_told_77 : decode cX11_told 77 = .ok (.getfield 228, 3) := by decide +kernel
theorem dX11_told_80 : decode cX11_told 80 = .ok (.ireturn, 1) := by decide +kernel
theorem dX11_told_81 : decode cX11_told 81 = .ok (.aload_n 0, 1) := by decide +kernel
theorem dX11_told_82 : decode cX11_told 82 = .ok (.getfield 244, 3) := by decide +kernel
theorem dX11_told_85 : decode cX11_told 85 = .ok (.ireturn, 1) := by decide +kernel
theorem dX11_told_86 : decode cX11_told 86 = .ok (.aload_n 0, 1) := by decide +kernel
theorem dX11_told_87 : decode cX11_told 87 = .ok (.getfield 268, 3) := by decide +kernel
theorem dX11_told_90 : decode cX11_told 90 = .ok (.ireturn, 1) := by decide +kernel
theorem dX11_told_91 : decode cX11_told 91 = .ok (.aload_n 0, 1) := by decide +kernel
theorem dX11_told_92 : decode cX11_told 92 = .ok (.invokevirtual 183, 3) := by decide +kernel
theorem dX11_told_95 : decode cX11_told 95 = .ok (.ireturn, 1) := by decide +kernel
theorem dX11_told_96 : decode cX11_told 96 = .ok (.aload_n 0, 1) := by decide +kernel
theorem dX11_told_97 : decode cX11_told 97 = .ok (.getfield 173, 3) := by decide +kernel
theorem dX11_told_100 : decode cX11_told 100 = .ok (.aload_n 0, 1) := by decide +kernel
theorem dX11_told_101 : decode cX11_told 101 = .ok (.invokevirtual 183, 3) := by decide +kernel
theorem dX11_told_104 : decode cX11_told 104 = .ok (.isub, 1) := by decide +kernel
theorem dX11_told_105 : decode cX11_told 105 = .ok (.ireturn, 1) := by decide +kernel
theorem dX11_told_106 : decode cX11_told 106 = .ok (.iconst (-1), 1) := by decide +kernel
theorem dX11_told_107 : decode cX11_told 107 = .ok (.ireturn, 1) := by decide +kernel
theorem dX11_say_0 : decode cX11_say 0 = .ok (.aload_n 0, 1) := by decide +kernel
theorem dX11_say_1 : decode cX11_say 1 = .ok (.getfield 311, 3) := by decide +kernel
theorem dX11_say_4 : decode cX11_say 4 = .ok (.sipush 1000, 3) := by decide +kernel
theorem dX11_say_7 : decode cX11_say 7 = .ok (.if_icmp .ne 4, 3) := by decide +kernel
theorem dX11_say_10 : decode cX11_say 10 = .ok (.return_, 1) := by decide +kernel
theorem dX11_say_11 : decode cX11_say 11 = .ok (.aload_n 0, 1) := by decide +kernel
theorem dX11_say_12 : decode cX11_say 12 = .ok (.getfield 120, 3) := by decide +kernel
theorem dX11_say_15 : decode cX11_say 15 = .ok (.aload_n 0, 1) := by decide +kernel
theorem dX11_say_16 : decode cX11_say 16 = .ok (.getfield 311, 3) := by decide +kernel
theorem dX11_say_19 : decode cX11_say 19 = .ok (.iload_n 1, 1) := by decide +kernel
theorem dX11_say_20 : decode cX11_say 20 = .ok (.iastore, 1) := by decide +kernel
theorem dX11_say_21 : decode cX11_say 21 = .ok (.aload_n 0, 1) := by decide +kernel
theorem dX11_say_22 : decode cX11_say 22 = .ok (.dup, 1) := by decide +kernel
theorem dX11_say_23 : decode cX11_say 23 = .ok (.getfield 311, 3) := by decide +kernel
theorem dX11_say_26 : decode cX11_say 26 = .ok (.iconst 1, 1) := by decide +kernel
theorem dX11_say_27 : decode cX11_say 27 = .ok (.iadd, 1) := by decide +kernel
theorem dX11_say_28 : decode cX11_say 28 = .ok (.putfield 311, 3) := by decide +kernel
theorem dX11_say_31 : decode cX11_say 31 = .ok (.return_, 1) := by decide +kernel
theorem dX11_sayNumber_0 : decode cX11_sayNumber 0 = .ok (.lload_n 1, 1) := by decide +kernel
theorem dX11_sayNumber_1 : decode cX11_sayNumber 1 = .ok (.lconst 0, 1) := by decide +kernel
theorem dX11_sayNumber_2 : decode cX11_sayNumber 2 = .ok (.lcmp, 1) := by decide +kernel
theorem dX11_sayNumber_3 : decode cX11_sayNumber 3 = .ok (.ifCond .ge 9, 3) := by decide +kernel
theorem dX11_sayNumber_6 : decode cX11_sayNumber 6 = .ok (.aload_n 0, 1) := by decide +kernel
theorem dX11_sayNumber_7 : decode cX11_sayNumber 7 = .ok (.bipush 45, 2) := by decide +kernel
theorem dX11_sayNumber_9 : decode cX11_sayNumber 9 = .ok (.invokevirtual 314, 3) := by decide +kernel
theorem dX11_sayNumber_12 : decode cX11_sayNumber 12 = .ok (.lload_n 1, 1) := by decide +kernel
theorem dX11_sayNumber_13 : decode cX11_sayNumber 13 = .ok (.lconst 0, 1) := by decide +kernel
theorem dX11_sayNumber_14 : decode cX11_sayNumber 14 = .ok (.lcmp, 1) := by decide +kernel
theorem dX11_sayNumber_15 : decode cX11_sayNumber 15 = .ok (.ifCond .ge 8, 3) := by decide +kernel
theorem dX11_sayNumber_18 : decode cX11_sayNumber 18 = .ok (.lload_n 1, 1) := by decide +kernel
theorem dX11_sayNumber_19 : decode cX11_sayNumber 19 = .ok (.lneg, 1) := by decide +kernel
theorem dX11_sayNumber_20 : decode cX11_sayNumber 20 = .ok (.goto 4, 3) := by decide +kernel
theorem dX11_sayNumber_23 : decode cX11_sayNumber 23 = .ok (.lload_n 1, 1) := by decide +kernel
theorem dX11_sayNumber_24 : decode cX11_sayNumber 24 = .ok (.lstore_n 3, 1) := by decide +kernel
theorem dX11_sayNumber_25 : decode cX11_sayNumber 25 = .ok (.lconst 1, 1) := by decide +kernel
theorem dX11_sayNumber_26 : decode cX11_sayNumber 26 = .ok (.lstore 5, 2) := by decide +kernel
theorem dX11_sayNumber_28 : decode cX11_sayNumber 28 = .ok (.lload_n 3, 1) := by decide +kernel
theorem dX11_sayNumber_29 : decode cX11_sayNumber 29 = .ok (.lload 5, 2) := by decide +kernel
theorem dX11_sayNumber_31 : decode cX11_sayNumber 31 = .ok (.ldiv, 1) := by decide +kernel
theorem dX11_sayNumber_32 : decode cX11_sayNumber 32 = .ok (.ldc2_w 317, 3) := by decide +kernel
theorem dX11_sayNumber_35 : decode cX11_sayNumber 35 = .ok (.lcmp, 1) := by decide +kernel
theorem dX11_sayNumber_36 : decode cX11_sayNumber 36 = .ok (.ifCond .le 14, 3) := by decide +kernel
theorem dX11_sayNumber_39 : decode cX11_sayNumber 39 = .ok (.ldc2_w 319, 3) := by decide +kernel
theorem dX11_sayNumber_42 : decode cX11_sayNumber 42 = .ok (.lload 5, 2) := by decide +kernel
theorem dX11_sayNumber_44 : decode cX11_sayNumber 44 = .ok (.lmul, 1) := by decide +kernel
theorem dX11_sayNumber_45 : decode cX11_sayNumber 45 = .ok (.lstore 5, 2) := by decide +kernel
theorem dX11_sayNumber_47 : decode cX11_sayNumber 47 = .ok (.goto (-19), 3) := by decide +kernel
theorem dX11_sayNumber_50 : decode cX11_sayNumber 50 = .ok (.lload 5, 2) := by decide +kernel
theorem dX11_sayNumber_52 : decode cX11_sayNumber 52 = .ok (.lconst 0, 1) := by decide +kernel
theorem dX11_sayNumber_53 : decode cX11_sayNumber 53 = .ok (.lcmp, 1) := by decide +kernel
theorem dX11_sayNumber_54 : decode cX11_sayNumber 54 = .ok (.ifCond .le 30, 3) := by decide +kernel
theorem dX11_sayNumber_57 : decode cX11_sayNumber 57 = .ok (.aload_n 0, 1) := by decide +kernel
theorem dX11_sayNumber_58 : decode cX11_sayNumber 58 = .ok (.bipush 48, 2) := by decide +kernel
theorem dX11_sayNumber_60 : decode cX11_sayNumber 60 = .ok (.lload_n 3, 1) := by decide +kernel
theorem dX11_sayNumber_61 : decode cX11_sayNumber 61 = .ok (.lload 5, 2) := by decide +kernel
theorem dX11_sayNumber_63 : decode cX11_sayNumber 63 = .ok (.ldiv, 1) := by decide +kernel
theorem dX11_sayNumber_64 : decode cX11_sayNumber 64 = .ok (.ldc2_w 319, 3) := by decide +kernel
theorem dX11_sayNumber_67 : decode cX11_sayNumber 67 = .ok (.lrem, 1) := by decide +kernel
theorem dX11_sayNumber_68 : decode cX11_sayNumber 68 = .ok (.l2i, 1) := by decide +kernel
theorem dX11_sayNumber_69 : decode cX11_sayNumber 69 = .ok (.iadd, 1) := by decide +kernel
theorem dX11_sayNumber_70 : decode cX11_sayNumber 70 = .ok (.invokevirtual 314, 3) := by decide +kernel
theorem dX11_sayNumber_73 : decode cX11_sayNumber 73 = .ok (.lload 5, 2) := by decide +kernel
theorem dX11_sayNumber_75 : decode cX11_sayNumber 75 = .ok (.ldc2_w 319, 3) := by decide +kernel
theorem dX11_sayNumber_78 : decode cX11_sayNumber 78 = .ok (.ldiv, 1) := by decide +kernel
theorem dX11_sayNumber_79 : decode cX11_sayNumber 79 = .ok (.lstore 5, 2) := by decide +kernel
theorem dX11_sayNumber_81 : decode cX11_sayNumber 81 = .ok (.goto (-31), 3) := by decide +kernel
theorem dX11_sayNumber_84 : decode cX11_sayNumber 84 = .ok (.return_, 1) := by decide +kernel
theorem dX11_tell_0 : decode cX11_tell 0 = .ok (.aload_n 0, 1) := by decide +kernel
theorem dX11_tell_1 : decode cX11_tell 1 = .ok (.iconst 0, 1) := by decide +kernel
theorem dX11_tell_2 : decode cX11_tell 2 = .ok (.putfield 132, 3) := by decide +kernel
theorem dX11_tell_5 : decode cX11_tell 5 = .ok (.aload_n 0, 1) := by decide +kernel
theorem dX11_tell_6 : decode cX11_tell 6 = .ok (.getfield 116, 3) := by decide +kernel
theorem dX11_tell_9 : decode cX11_tell 9 = .ok (.iconst 1, 1) := by decide +kernel
theorem dX11_tell_10 : decode cX11_tell 10 = .ok (.if_icmp .ne 12, 3) := by decide +kernel
theorem dX11_tell_13 : decode cX11_tell 13 = .ok (.aload_n 0, 1) := by decide +kernel
theorem dX11_tell_14 : decode cX11_tell 14 = .ok (.getfield 73, 3) := by decide +kernel
theorem dX11_tell_17 : decode cX11_tell 17 = .ok (.iconst 0, 1) := by decide +kernel
theorem dX11_tell_18 : decode cX11_tell 18 = .ok (.iaload, 1) := by decide +kernel
theorem dX11_tell_19 : decode cX11_tell 19 = .ok (.goto 4, 3) := by decide +kernel
theorem dX11_tell_22 : decode cX11_tell 22 = .ok (.iconst (-1), 1) := by decide +kernel
theorem dX11_tell_23 : decode cX11_tell 23 = .ok (.istore_n 2, 1) := by decide +kernel
theorem dX11_tell_24 : decode cX11_tell 24 = .ok (.aload_n 0, 1) := by decide +kernel
theorem dX11_tell_25 : decode cX11_tell 25 = .ok (.getfield 116, 3) := by decide +kernel
theorem dX11_tell_28 : decode cX11_tell 28 = .ok (.iconst 1, 1) := by decide +kernel
theorem dX11_tell_29 : decode cX11_tell 29 = .ok (.if_icmp .ne 17, 3) := by decide +kernel
theorem dX11_tell_32 : decode cX11_tell 32 = .ok (.iload_n 1, 1) := by decide +kernel
theorem dX11_tell_33 : decode cX11_tell 33 = .ok (.ifCond .lt 13, 3) := by decide +kernel
theorem dX11_tell_36 : decode cX11_tell 36 = .ok (.iload_n 1, 1) := by decide +kernel
theorem dX11_tell_37 : decode cX11_tell 37 = .ok (.aload_n 0, 1) := by decide +kernel
theorem dX11_tell_38 : decode cX11_tell 38 = .ok (.getfield 23, 3) := by decide +kernel
theorem dX11_tell_41 : decode cX11_tell 41 = .ok (.iload_n 2, 1) := by decide +kernel
theorem dX11_tell_42 : decode cX11_tell 42 = .ok (.iaload, 1) := by decide +kernel
theorem dX11_tell_43 : decode cX11_tell 43 = .ok (.if_icmp .lt 10, 3) := by decide +kernel
theorem dX11_tell_46 : decode cX11_tell 46 = .ok (.aload_n 0, 1) := by decide +kernel
theorem dX11_tell_47 : decode cX11_tell 47 = .ok (.iconst 1, 1) := by decide +kernel
theorem dX11_tell_48 : decode cX11_tell 48 = .ok (.putfield 132, 3) := by decide +kernel
theorem dX11_tell_51 : decode cX11_tell 51 = .ok (.iconst 0, 1) := by decide +kernel
theorem dX11_tell_52 : decode cX11_tell 52 = .ok (.ireturn, 1) := by decide +kernel
theorem dX11_tell_53 : decode cX11_tell 53 = .ok (.aload_n 0, 1) := by decide +kernel
theorem dX11_tell_54 : decode cX11_tell 54 = .ok (.iconst 0, 1) := by decide +kernel
theorem dX11_tell_55 : decode cX11_tell 55 = .ok (.putfield 311, 3) := by decide +kernel
theorem dX11_tell_58 : decode cX11_tell 58 = .ok (.aload_n 0, 1) := by decide +kernel
theorem dX11_tell_59 : decode cX11_tell 59 = .ok (.getfield 123, 3) := by decide +kernel
theorem dX11_tell_62 : decode cX11_tell 62 = .ok (.iconst 0, 1) := by decide +kernel
theorem dX11_tell_63 : decode cX11_tell 63 = .ok (.aload_n 0, 1) := by decide +kernel
theorem dX11_tell_64 : decode cX11_tell 64 = .ok (.getfield 106, 3) := by decide +kernel
theorem dX11_tell_67 : decode cX11_tell 67 = .ok (.aload_n 0, 1) := by decide +kernel
theorem dX11_tell_68 : decode cX11_tell 68 = .ok (.getfield 26, 3) := by decide +kernel
theorem dX11_tell_71 : decode cX11_tell 71 = .ok (.bipush 8, 2) := by decide +kernel
theorem dX11_tell_73 : decode cX11_tell 73 = .ok (.iload_n 2, 1) := by decide +kernel
theorem dX11_tell_74 : decode cX11_tell 74 = .ok (.imul, 1) := by decide +kernel
theorem dX11_tell_75 : decode cX11_tell 75 = .ok (.iload_n 1, 1) := by decide +kernel
theorem dX11_tell_76 : decode cX11_tell 76 = .ok (.iadd, 1) := by decide +kernel
theorem dX11_tell_77 : decode cX11_tell 77 = .ok (.iaload, 1) := by decide +kernel
theorem dX11_tell_78 : decode cX11_tell 78 = .ok (.laload, 1) := by decide +kernel
theorem dX11_tell_79 : decode cX11_tell 79 = .ok (.lastore, 1) := by decide +kernel
theorem dX11_tell_80 : decode cX11_tell 80 = .ok (.iconst 1, 1) := by decide +kernel
theorem dX11_tell_81 : decode cX11_tell 81 = .ok (.istore_n 3, 1) := by decide +kernel
theorem dX11_tell_82 : decode cX11_tell 82 = .ok (.iload_n 3, 1) := by decide +kernel
theorem dX11_tell_83 : decode cX11_tell 83 = .ok (.ifCond .le 93, 3) := by decide +kernel
theorem dX11_tell_86 : decode cX11_tell 86 = .ok (.aload_n 0, 1) := by decide +kernel
theorem dX11_tell_87 : decode cX11_tell 87 = .ok (.getfield 311, 3) := by decide +kernel
theorem dX11_tell_90 : decode cX11_tell 90 = .ok (.sipush 1000, 3) := by decide +kernel
theorem dX11_tell_93 : decode cX11_tell 93 = .ok (.if_icmp .ge 83, 3) := by decide +kernel
theorem dX11_tell_96 : decode cX11_tell 96 = .ok (.iinc 3 (-1), 3) := by decide +kernel
theorem dX11_tell_99 : decode cX11_tell 99 = .ok (.aload_n 0, 1) := by decide +kernel
theorem dX11_tell_100 : decode cX11_tell 100 = .ok (.getfield 123, 3) := by decide +kernel
theorem dX11_tell_103 : decode cX11_tell 103 = .ok (.iload_n 3, 1) := by decide +kernel
theorem dX11_tell_104 : decode cX11_tell 104 = .ok (.laload, 1) := by decide +kernel
theorem dX11_tell_105 : decode cX11_tell 105 = .ok (.lstore 4, 2) := by decide +kernel
theorem dX11_tell_107 : decode cX11_tell 107 = .ok (.lload 4, 2) := by decide +kernel
theorem dX11_tell_109 : decode cX11_tell 109 = .ok (.ldc2_w 321, 3) := by decide +kernel
theorem dX11_tell_112 : decode cX11_tell 112 = .ok (.lcmp, 1) := by decide +kernel
theorem dX11_tell_113 : decode cX11_tell 113 = .ok (.ifCond .ne 12, 3) := by decide +kernel
theorem dX11_tell_116 : decode cX11_tell 116 = .ok (.aload_n 0, 1) := by decide +kernel
theorem dX11_tell_117 : decode cX11_tell 117 = .ok (.bipush 44, 2) := by decide +kernel
theorem dX11_tell_119 : decode cX11_tell 119 = .ok (.invokevirtual 314, 3) := by decide +kernel
theorem dX11_tell_122 : decode cX11_tell 122 = .ok (.goto 51, 3) := by decide +kernel
theorem dX11_tell_125 : decode cX11_tell 125 = .ok (.lload 4, 2) := by decide +kernel
theorem dX11_tell_127 : decode cX11_tell 127 = .ok (.ldc2_w 323, 3) := by decide +kernel
theorem dX11_tell_130 : decode cX11_tell 130 = .ok (.lcmp, 1) := by decide +kernel
theorem dX11_tell_131 : decode cX11_tell 131 = .ok (.ifCond .ne 12, 3) := by decide +kernel
theorem dX11_tell_134 : decode cX11_tell 134 = .ok (.aload_n 0, 1) := by decide +kernel
theorem dX11_tell_135 : decode cX11_tell 135 = .ok (.bipush 41, 2) := by decide +kernel
theorem dX11_tell_137 : decode cX11_tell 137 = .ok (.invokevirtual 314, 3) := by decide +kernel
theorem dX11_tell_140 : decode cX11_tell 140 = .ok (.goto 33, 3) := by decide +kernel
theorem dX11_tell_143 : decode cX11_tell 143 = .ok (.lload 4, 2) := by decide +kernel
theorem dX11_tell_145 : decode cX11_tell 145 = .ok (.invokestatic 224, 3) := by decide +kernel
theorem dX11_tell_148 : decode cX11_tell 148 = .ok (.ifCond .ne 12, 3) := by decide +kernel
theorem dX11_tell_151 : decode cX11_tell 151 = .ok (.aload_n 0, 1) := by decide +kernel
theorem dX11_tell_152 : decode cX11_tell 152 = .ok (.lload 4, 2) := by decide +kernel
theorem dX11_tell_154 : decode cX11_tell 154 = .ok (.invokevirtual 325, 3) := by decide +kernel
theorem dX11_tell_157 : decode cX11_tell 157 = .ok (.goto 16, 3) := by decide +kernel
theorem dX11_tell_160 : decode cX11_tell 160 = .ok (.aload_n 0, 1) := by decide +kernel
theorem dX11_tell_161 : decode cX11_tell 161 = .ok (.lload 4, 2) := by decide +kernel
theorem dX11_tell_163 : decode cX11_tell 163 = .ok (.ldc2_w 215, 3) := by decide +kernel
theorem dX11_tell_166 : decode cX11_tell 166 = .ok (.lsub, 1) := by decide +kernel
theorem dX11_tell_167 : decode cX11_tell 167 = .ok (.l2i, 1) := by decide +kernel
theorem dX11_tell_168 : decode cX11_tell 168 = .ok (.iload_n 3, 1) := by decide +kernel
theorem dX11_tell_169 : decode cX11_tell 169 = .ok (.invokevirtual 329, 3) := by decide +kernel
theorem dX11_tell_172 : decode cX11_tell 172 = .ok (.istore_n 3, 1) := by decide +kernel
theorem dX11_tell_173 : decode cX11_tell 173 = .ok (.goto (-91), 3) := by decide +kernel
theorem dX11_tell_176 : decode cX11_tell 176 = .ok (.aload_n 0, 1) := by decide +kernel
theorem dX11_tell_177 : decode cX11_tell 177 = .ok (.getfield 311, 3) := by decide +kernel
theorem dX11_tell_180 : decode cX11_tell 180 = .ok (.ireturn, 1) := by decide +kernel
theorem dX11_sayCell_0 : decode cX11_sayCell 0 = .ok (.iload_n 2, 1) := by decide +kernel
theorem dX11_sayCell_1 : decode cX11_sayCell 1 = .ok (.istore_n 3, 1) := by decide +kernel
theorem dX11_sayCell_2 : decode cX11_sayCell 2 = .ok (.aload_n 0, 1) := by decide +kernel
theorem dX11_sayCell_3 : decode cX11_sayCell 3 = .ok (.bipush 99, 2) := by decide +kernel
theorem dX11_sayCell_5 : decode cX11_sayCell 5 = .ok (.invokevirtual 314, 3) := by decide +kernel
theorem dX11_sayCell_8 : decode cX11_sayCell 8 = .ok (.aload_n 0, 1) := by decide +kernel
theorem dX11_sayCell_9 : decode cX11_sayCell 9 = .ok (.aload_n 0, 1) := by decide +kernel
theorem dX11_sayCell_10 : decode cX11_sayCell 10 = .ok (.getfield 57, 3) := by decide +kernel
theorem dX11_sayCell_13 : decode cX11_sayCell 13 = .ok (.iload_n 1, 1) := by decide +kernel
theorem dX11_sayCell_14 : decode cX11_sayCell 14 = .ok (.iaload, 1) := by decide +kernel
theorem dX11_sayCell_15 : decode cX11_sayCell 15 = .ok (.i2l, 1) := by decide +kernel
theorem dX11_sayCell_16 : decode cX11_sayCell 16 = .ok (.invokevirtual 325, 3) := by decide +kernel
theorem dX11_sayCell_19 : decode cX11_sayCell 19 = .ok (.aload_n 0, 1) := by decide +kernel
theorem dX11_sayCell_20 : decode cX11_sayCell 20 = .ok (.getfield 60, 3) := by decide +kernel
theorem dX11_sayCell_23 : decode cX11_sayCell 23 = .ok (.iload_n 1, 1) := by decide +kernel
theorem dX11_sayCell_24 : decode cX11_sayCell 24 = .ok (.iaload, 1) := by decide +kernel
theorem dX11_sayCell_25 : decode cX11_sayCell 25 = .ok (.istore 4, 2) := by decide +kernel
theorem dX11_sayCell_27 : decode cX11_sayCell 27 = .ok (.iload 4, 2) := by decide +kernel
theorem dX11_sayCell_29 : decode cX11_sayCell 29 = .ok (.ifCond .ne 5, 3) := by decide +kernel
theorem dX11_sayCell_32 : decode cX11_sayCell 32 = .ok (.iload_n 3, 1) := by decide +kernel
theorem dX11_sayCell_33 : decode cX11_sayCell 33 = .ok (.ireturn, 1) := by decide +kernel
theorem dX11_sayCell_34 : decode cX11_sayCell 34 = .ok (.aload_n 0, 1) := by decide +kernel
theorem dX11_sayCell_35 : decode cX11_sayCell 35 = .ok (.bipush 40, 2) := by decide +kernel
theorem dX11_sayCell_37 : decode cX11_sayCell 37 = .ok (.invokevirtual 314, 3) := by decide +kernel
theorem dX11_sayCell_40 : decode cX11_sayCell 40 = .ok (.aload_n 0, 1) := by decide +kernel
theorem dX11_sayCell_41 : decode cX11_sayCell 41 = .ok (.getfield 123, 3) := by decide +kernel
theorem dX11_sayCell_44 : decode cX11_sayCell 44 = .ok (.iload_n 3, 1) := by decide +kernel
theorem dX11_sayCell_45 : decode cX11_sayCell 45 = .ok (.ldc2_w 323, 3) := by decide +kernel
theorem dX11_sayCell_48 : decode cX11_sayCell 48 = .ok (.lastore, 1) := by decide +kernel
theorem dX11_sayCell_49 : decode cX11_sayCell 49 = .ok (.iinc 3 1, 3) := by decide +kernel
theorem dX11_sayCell_52 : decode cX11_sayCell 52 = .ok (.iload 4, 2) := by decide +kernel
theorem dX11_sayCell_54 : decode cX11_sayCell 54 = .ok (.iconst 1, 1) := by decide +kernel
theorem dX11_sayCell_55 : decode cX11_sayCell 55 = .ok (.isub, 1) := by decide +kernel
theorem dX11_sayCell_56 : decode cX11_sayCell 56 = .ok (.istore 5, 2) := by decide +kernel
theorem dX11_sayCell_58 : decode cX11_sayCell 58 = .ok (.iload 5, 2) := by decide +kernel
theorem dX11_sayCell_60 : decode cX11_sayCell 60 = .ok (.ifCond .lt 49, 3) := by decide +kernel
theorem dX11_sayCell_63 : decode cX11_sayCell 63 = .ok (.aload_n 0, 1) := by decide +kernel
theorem dX11_sayCell_64 : decode cX11_sayCell 64 = .ok (.getfield 123, 3) := by decide +kernel
theorem dX11_sayCell_67 : decode cX11_sayCell 67 = .ok (.iload_n 3, 1) := by decide +kernel
theorem dX11_sayCell_68 : decode cX11_sayCell 68 = .ok (.aload_n 0, 1) := by decide +kernel
theorem dX11_sayCell_69 : decode cX11_sayCell 69 = .ok (.getfield 66, 3) := by decide +kernel
theorem dX11_sayCell_72 : decode cX11_sayCell 72 = .ok (.aload_n 0, 1) := by decide +kernel
theorem dX11_sayCell_73 : decode cX11_sayCell 73 = .ok (.getfield 63, 3) := by decide +kernel
theorem dX11_sayCell_76 : decode cX11_sayCell 76 = .ok (.iload_n 1, 1) := by decide +kernel
theorem dX11_sayCell_77 : decode cX11_sayCell 77 = .ok (.iaload, 1) := by decide +kernel
theorem dX11_sayCell_78 : decode cX11_sayCell 78 = .ok (.iload 5, 2) := by decide +kernel
theorem dX11_sayCell_80 : decode cX11_sayCell 80 = .ok (.iadd, 1) := by decide +kernel
theorem dX11_sayCell_81 : decode cX11_sayCell 81 = .ok (.laload, 1) := by decide +kernel
theorem dX11_sayCell_82 : decode cX11_sayCell 82 = .ok (.lastore, 1) := by decide +kernel
theorem dX11_sayCell_83 : decode cX11_sayCell 83 = .ok (.iinc 3 1, 3) := by decide +kernel
theorem dX11_sayCell_86 : decode cX11_sayCell 86 = .ok (.iload 5, 2) := by decide +kernel
theorem dX11_sayCell_88 : decode cX11_sayCell 88 = .ok (.ifCond .le 15, 3) := by decide +kernel
theorem dX11_sayCell_91 : decode cX11_sayCell 91 = .ok (.aload_n 0, 1) := by decide +kernel
theorem dX11_sayCell_92 : decode cX11_sayCell 92 = .ok (.getfield 123, 3) := by decide +kernel
theorem dX11_sayCell_95 : decode cX11_sayCell 95 = .ok (.iload_n 3, 1) := by decide +kernel
theorem dX11_sayCell_96 : decode cX11_sayCell 96 = .ok (.ldc2_w 321, 3) := by decide +kernel
theorem dX11_sayCell_99 : decode cX11_sayCell 99 = .ok (.lastore, 1) := by decide +kernel
theorem dX11_sayCell_100 : decode cX11_sayCell 100 = .ok (.iinc 3 1, 3) := by decide +kernel
theorem dX11_sayCell_103 : decode cX11_sayCell 103 = .ok (.iinc 5 (-1), 3) := by decide +kernel
theorem dX11_sayCell_106 : decode cX11_sayCell 106 = .ok (.goto (-48), 3) := by decide +kernel
theorem dX11_sayCell_109 : decode cX11_sayCell 109 = .ok (.iload_n 3, 1) := by decide +kernel
theorem dX11_sayCell_110 : decode cX11_sayCell 110 = .ok (.ireturn, 1) := by decide +kernel
theorem dX11_letter_0 : decode cX11_letter 0 = .ok (.aload_n 0, 1) := by decide +kernel
theorem dX11_letter_1 : decode cX11_letter 1 = .ok (.iconst 0, 1) := by decide +kernel
theorem dX11_letter_2 : decode cX11_letter 2 = .ok (.putfield 132, 3) := by decide +kernel
theorem dX11_letter_5 : decode cX11_letter 5 = .ok (.iload_n 1, 1) := by decide +kernel
theorem dX11_letter_6 : decode cX11_letter 6 = .ok (.ifCond .lt 20, 3) := by decide +kernel
theorem dX11_letter_9 : decode cX11_letter 9 = .ok (.iload_n 1, 1) := by decide +kernel
theorem dX11_letter_10 : decode cX11_letter 10 = .ok (.aload_n 0, 1) := by decide +kernel
theorem dX11_letter_11 : decode cX11_letter 11 = .ok (.getfield 311, 3) := by decide +kernel
theorem dX11_letter_14 : decode cX11_letter 14 = .ok (.if_icmp .ge 12, 3) := by decide +kernel
theorem dX11_letter_17 : decode cX11_letter 17 = .ok (.aload_n 0, 1) := by decide +kernel
theorem dX11_letter_18 : decode cX11_letter 18 = .ok (.getfield 120, 3) := by decide +kernel
theorem dX11_letter_21 : decode cX11_letter 21 = .ok (.iload_n 1, 1) := by decide +kernel
theorem dX11_letter_22 : decode cX11_letter 22 = .ok (.iaload, 1) := by decide +kernel
theorem dX11_letter_23 : decode cX11_letter 23 = .ok (.goto 4, 3) := by decide +kernel
theorem dX11_letter_26 : decode cX11_letter 26 = .ok (.iconst (-1), 1) := by decide +kernel
theorem dX11_letter_27 : decode cX11_letter 27 = .ok (.ireturn, 1) := by decide +kernel
theorem dX11_slot_0 : decode cX11_slot 0 = .ok (.aload_n 0, 1) := by decide +kernel
theorem dX11_slot_1 : decode cX11_slot 1 = .ok (.iconst 0, 1) := by decide +kernel
theorem dX11_slot_2 : decode cX11_slot 2 = .ok (.putfield 132, 3) := by decide +kernel
theorem dX11_slot_5 : decode cX11_slot 5 = .ok (.aload_n 0, 1) := by decide +kernel
theorem dX11_slot_6 : decode cX11_slot 6 = .ok (.getfield 116, 3) := by decide +kernel
theorem dX11_slot_9 : decode cX11_slot 9 = .ok (.ifCond .eq 11, 3) := by decide +kernel
theorem dX11_slot_12 : decode cX11_slot 12 = .ok (.aload_n 0, 1) := by decide +kernel
theorem dX11_slot_13 : decode cX11_slot 13 = .ok (.getfield 116, 3) := by decide +kernel
theorem dX11_slot_16 : decode cX11_slot 16 = .ok (.iconst 1, 1) := by decide +kernel
theorem dX11_slot_17 : decode cX11_slot 17 = .ok (.if_icmp .ne 27, 3) := by decide +kernel
theorem dX11_slot_20 : decode cX11_slot 20 = .ok (.iload_n 1, 1) := by decide +kernel
theorem dX11_slot_21 : decode cX11_slot 21 = .ok (.iconst 0, 1) := by decide +kernel
theorem dX11_slot_22 : decode cX11_slot 22 = .ok (.aload_n 0, 1) := by decide +kernel
theorem dX11_slot_23 : decode cX11_slot 23 = .ok (.getfield 17, 3) := by decide +kernel
theorem dX11_slot_26 : decode cX11_slot 26 = .ok (.aload_n 0, 1) := by decide +kernel
theorem dX11_slot_27 : decode cX11_slot 27 = .ok (.getfield 73, 3) := by decide +kernel
theorem dX11_slot_30 : decode cX11_slot 30 = .ok (.aload_n 0, 1) := by decide +kernel
theorem dX11_slot_31 : decode cX11_slot 31 = .ok (.getfield 203, 3) := by decide +kernel
theorem dX11_slot_34 : decode cX11_slot 34 = .ok (.iaload, 1) := by decide +kernel
theorem dX11_slot_35 : decode cX11_slot 35 = .ok (.iaload, 1) := by decide +kernel
theorem dX11_slot_36 : decode cX11_slot 36 = .ok (.iconst 1, 1) := by decide +kernel
theorem dX11_slot_37 : decode cX11_slot 37 = .ok (.isub, 1) := by decide +kernel
theorem dX11_slot_38 : decode cX11_slot 38 = .ok (.invokestatic 138, 3) := by decide +kernel
theorem dX11_slot_41 : decode cX11_slot 41 = .ok (.ifCond .ne 7, 3) := by decide +kernel
theorem dX11_slot_44 : decode cX11_slot 44 = .ok (.ldc2_w 333, 3) := by decide +kernel
theorem dX11_slot_47 : decode cX11_slot 47 = .ok (.lreturn, 1) := by decide +kernel
theorem dX11_slot_48 : decode cX11_slot 48 = .ok (.aload_n 0, 1) := by decide +kernel
theorem dX11_slot_49 : decode cX11_slot 49 = .ok (.iload_n 1, 1) := by decide +kernel
theorem dX11_slot_50 : decode cX11_slot 50 = .ok (.invokevirtual 240, 3) := by decide +kernel
theorem dX11_slot_53 : decode cX11_slot 53 = .ok (.lstore_n 2, 1) := by decide +kernel
theorem dX11_slot_54 : decode cX11_slot 54 = .ok (.lload_n 2, 1) := by decide +kernel
theorem dX11_slot_55 : decode cX11_slot 55 = .ok (.invokestatic 224, 3) := by decide +kernel
theorem dX11_slot_58 : decode cX11_slot 58 = .ok (.ifCond .eq 22, 3) := by decide +kernel
theorem dX11_slot_61 : decode cX11_slot 61 = .ok (.ldc2_w 215, 3) := by decide +kernel
theorem dX11_slot_64 : decode cX11_slot 64 = .ok (.aload_n 0, 1) := by decide +kernel
theorem dX11_slot_65 : decode cX11_slot 65 = .ok (.getfield 57, 3) := by decide +kernel
theorem dX11_slot_68 : decode cX11_slot 68 = .ok (.lload_n 2, 1) := by decide +kernel
theorem dX11_slot_69 : decode cX11_slot 69 = .ok (.ldc2_w 215, 3) := by decide +kernel
theorem dX11_slot_72 : decode cX11_slot 72 = .ok (.lsub, 1) := by decide +kernel
theorem dX11_slot_73 : decode cX11_slot 73 = .ok (.l2i, 1) := by decide +kernel
theorem dX11_slot_74 : decode cX11_slot 74 = .ok (.iaload, 1) := by decide +kernel
theorem dX11_slot_75 : decode cX11_slot 75 = .ok (.i2l, 1) := by decide +kernel
theorem dX11_slot_76 : decode cX11_slot 76 = .ok (.ladd, 1) := by decide +kernel
theorem dX11_slot_77 : decode cX11_slot 77 = .ok (.goto 4, 3) := by decide +kernel
theorem dX11_slot_80 : decode cX11_slot 80 = .ok (.lload_n 2, 1) := by decide +kernel
theorem dX11_slot_81 : decode cX11_slot 81 = .ok (.lreturn, 1) := by decide +kernel
theorem dJ5_init_d00df_0 : decode cJ5_init_d00df 0 = .ok (.aload_n 0, 1) := by decide +kernel
theorem dJ5_init_d00df_1 : decode cJ5_init_d00df 1 = .ok (.invokespecial 3, 3) := by decide +kernel
theorem dJ5_init_d00df_4 : decode cJ5_init_d00df 4 = .ok (.getstatic 18, 3) := by decide +kernel
theorem dJ5_init_d00df_7 : decode cJ5_init_d00df 7 = .ok (.ifCond .eq 18, 3) := by decide +kernel
theorem dJ5_init_d00df_10 : decode cJ5_init_d00df 10 = .ok (.aload_n 0, 1) := by decide +kernel
theorem dJ5_init_d00df_11 : decode cJ5_init_d00df 11 = .ok (.iload_n 1, 1) := by decide +kernel
theorem dJ5_init_d00df_12 : decode cJ5_init_d00df 12 = .ok (.newarray .byte, 2) := by decide +kernel
theorem dJ5_init_d00df_14 : decode cJ5_init_d00df 14 = .ok (.putfield 15, 3) := by decide +kernel
theorem dJ5_init_d00df_17 : decode cJ5_init_d00df 17 = .ok (.aload_n 0, 1) := by decide +kernel
theorem dJ5_init_d00df_18 : decode cJ5_init_d00df 18 = .ok (.iconst 0, 1) := by decide +kernel
theorem dJ5_init_d00df_19 : decode cJ5_init_d00df 19 = .ok (.putfield 22, 3) := by decide +kernel
theorem dJ5_init_d00df_22 : decode cJ5_init_d00df 22 = .ok (.goto 16, 3) := by decide +kernel
theorem dJ5_init_d00df_25 : decode cJ5_init_d00df 25 = .ok (.aload_n 0, 1) := by decide +kernel
theorem dJ5_init_d00df_26 : decode cJ5_init_d00df 26 = .ok (.iload_n 1, 1) := by decide +kernel
theorem dJ5_init_d00df_27 : decode cJ5_init_d00df 27 = .ok (.invokestatic 26, 3) := by decide +kernel
theorem dJ5_init_d00df_30 : decode cJ5_init_d00df 30 = .ok (.putfield 15, 3) := by decide +kernel
theorem dJ5_init_d00df_33 : decode cJ5_init_d00df 33 = .ok (.aload_n 0, 1) := by decide +kernel
theorem dJ5_init_d00df_34 : decode cJ5_init_d00df 34 = .ok (.iconst 1, 1) := by decide +kernel
theorem dJ5_init_d00df_35 : decode cJ5_init_d00df 35 = .ok (.putfield 22, 3) := by decide +kernel
theorem dJ5_init_d00df_38 : decode cJ5_init_d00df 38 = .ok (.return_, 1) := by decide +kernel
theorem dJ5_length_8abf5_0 : decode cJ5_length_8abf5 0 = .ok (.aload_n 0, 1) := by decide +kernel
theorem dJ5_length_8abf5_1 : decode cJ5_length_8abf5 1 = .ok (.getfield 79, 3) := by decide +kernel
theorem dJ5_length_8abf5_4 : decode cJ5_length_8abf5 4 = .ok (.ireturn, 1) := by decide +kernel
theorem dJ5_ensureCapacityInternal_d00df_0 : decode cJ5_ensureCapacityInternal_d00df 0 = .ok (.aload_n 0, 1) := by decide +kernel
theorem dJ5_ensureCapacityInternal_d00df_1 : decode cJ5_ensureCapacityInternal_d00df 1 = .ok (.getfield 15, 3) := by decide +kernel
theorem dJ5_ensureCapacityInternal_d00df_4 : decode cJ5_ensureCapacityInternal_d00df 4 = .ok (.arraylength, 1) := by decide +kernel
theorem dJ5_ensureCapacityInternal_d00df_5 : decode cJ5_ensureCapacityInternal_d00df 5 = .ok (.aload_n 0, 1) := by decide +kernel
theorem dJ5_ensureCapacityInternal_d00df_6 : decode cJ5_ensureCapacityInternal_d00df 6 = .ok (.getfield 22, 3) := by decide +kernel
theorem dJ5_ensureCapacityInternal_d00df_9 : decode cJ5_ensureCapacityInternal_d00df 9 = .ok (.ishr, 1) := by decide +kernel
theorem dJ5_ensureCapacityInternal_d00df_10 : decode cJ5_ensureCapacityInternal_d00df 10 = .ok (.istore_n 2, 1) := by decide +kernel
theorem dJ5_ensureCapacityInternal_d00df_11 : decode cJ5_ensureCapacityInternal_d00df 11 = .ok (.iload_n 1, 1) := by decide +kernel
theorem dJ5_ensureCapacityInternal_d00df_12 : decode cJ5_ensureCapacityInternal_d00df 12 = .ok (.iload_n 2, 1) := by decide +kernel
theorem dJ5_ensureCapacityInternal_d00df_13 : decode cJ5_ensureCapacityInternal_d00df 13 = .ok (.isub, 1) := by decide +kernel
theorem dJ5_ensureCapacityInternal_d00df_14 : decode cJ5_ensureCapacityInternal_d00df 14 = .ok (.ifCond .le 24, 3) := by decide +kernel
theorem dJ5_ensureCapacityInternal_d00df_17 : decode cJ5_ensureCapacityInternal_d00df 17 = .ok (.aload_n 0, 1) := by decide +kernel
theorem dJ5_ensureCapacityInternal_d00df_18 : decode cJ5_ensureCapacityInternal_d00df 18 = .ok (.aload_n 0, 1) := by decide +kernel
theorem dJ5_ensureCapacityInternal_d00df_19 : decode cJ5_ensureCapacityInternal_d00df 19 = .ok (.getfield 15, 3) := by decide +kernel
theorem dJ5_ensureCapacityInternal_d00df_22 : decode cJ5_ensureCapacityInternal_d00df 22 = .ok (.aload_n 0, 1) := by decide +kernel
theorem dJ5_ensureCapacityInternal_d00df_23 : decode cJ5_ensureCapacityInternal_d00df 23 = .ok (.iload_n 1, 1) := by decide +kernel
theorem dJ5_ensureCapacityInternal_d00df_24 : decode cJ5_ensureCapacityInternal_d00df 24 = .ok (.invokevirtual 104, 3) := by decide +kernel
theorem dJ5_ensureCapacityInternal_d00df_27 : decode cJ5_ensureCapacityInternal_d00df 27 = .ok (.aload_n 0, 1) := by decide +kernel
theorem dJ5_ensureCapacityInternal_d00df_28 : decode cJ5_ensureCapacityInternal_d00df 28 = .ok (.getfield 22, 3) := by decide +kernel
theorem dJ5_ensureCapacityInternal_d00df_31 : decode cJ5_ensureCapacityInternal_d00df 31 = .ok (.ishl, 1) := by decide +kernel
theorem dJ5_ensureCapacityInternal_d00df_32 : decode cJ5_ensureCapacityInternal_d00df 32 = .ok (.invokestatic 108, 3) := by decide +kernel
theorem dJ5_ensureCapacityInternal_d00df_35 : decode cJ5_ensureCapacityInternal_d00df 35 = .ok (.putfield 15, 3) := by decide +kernel
theorem dJ5_ensureCapacityInternal_d00df_38 : decode cJ5_ensureCapacityInternal_d00df 38 = .ok (.return_, 1) := by decide +kernel
theorem dJ5_newCapacity_0f7a4_0 : decode cJ5_newCapacity_0f7a4 0 = .ok (.aload_n 0, 1) := by decide +kernel
theorem dJ5_newCapacity_0f7a4_1 : decode cJ5_newCapacity_0f7a4 1 = .ok (.getfield 15, 3) := by decide +kernel
theorem dJ5_newCapacity_0f7a4_4 : decode cJ5_newCapacity_0f7a4 4 = .ok (.arraylength, 1) := by decide +kernel
theorem dJ5_newCapacity_0f7a4_5 : decode cJ5_newCapacity_0f7a4 5 = .ok (.istore_n 2, 1) := by decide +kernel
theorem dJ5_newCapacity_0f7a4_6 : decode cJ5_newCapacity_0f7a4 6 = .ok (.iload_n 1, 1) := by decide +kernel
theorem dJ5_newCapacity_0f7a4_7 : decode cJ5_newCapacity_0f7a4 7 = .ok (.aload_n 0, 1) := by decide +kernel
theorem dJ5_newCapacity_0f7a4_8 : decode cJ5_newCapacity_0f7a4 8 = .ok (.getfield 22, 3) := by decide +kernel
theorem dJ5_newCapacity_0f7a4_11 : decode cJ5_newCapacity_0f7a4 11 = .ok (.ishl, 1) := by decide +kernel
theorem dJ5_newCapacity_0f7a4_12 : decode cJ5_newCapacity_0f7a4 12 = .ok (.istore_n 3, 1) := by decide +kernel
theorem dJ5_newCapacity_0f7a4_13 : decode cJ5_newCapacity_0f7a4 13 = .ok (.iload_n 3, 1) := by decide +kernel
theorem dJ5_newCapacity_0f7a4_14 : decode cJ5_newCapacity_0f7a4 14 = .ok (.iload_n 2, 1) := by decide +kernel
theorem dJ5_newCapacity_0f7a4_15 : decode cJ5_newCapacity_0f7a4 15 = .ok (.isub, 1) := by decide +kernel
theorem dJ5_newCapacity_0f7a4_16 : decode cJ5_newCapacity_0f7a4 16 = .ok (.istore 4, 2) := by decide +kernel
theorem dJ5_newCapacity_0f7a4_18 : decode cJ5_newCapacity_0f7a4 18 = .ok (.iload_n 2, 1) := by decide +kernel
theorem dJ5_newCapacity_0f7a4_19 : decode cJ5_newCapacity_0f7a4 19 = .ok (.iload 4, 2) := by decide +kernel
theorem dJ5_newCapacity_0f7a4_21 : decode cJ5_newCapacity_0f7a4 21 = .ok (.iload_n 2, 1) := by decide +kernel
theorem dJ5_newCapacity_0f7a4_22 : decode cJ5_newCapacity_0f7a4 22 = .ok (.iconst 2, 1) := by decide +kernel
theorem dJ5_newCapacity_0f7a4_23 : decode cJ5_newCapacity_0f7a4 23 = .ok (.aload_n 0, 1) := by decide +kernel
theorem dJ5_newCapacity_0f7a4_24 : decode cJ5_newCapacity_0f7a4 24 = .ok (.getfield 22, 3) := by decide +kernel
theorem dJ5_newCapacity_0f7a4_27 : decode cJ5_newCapacity_0f7a4 27 = .ok (.ishl, 1) := by decide +kernel
theorem dJ5_newCapacity_0f7a4_28 : decode cJ5_newCapacity_0f7a4 28 = .ok (.iadd, 1) := by decide +kernel
theorem dJ5_newCapacity_0f7a4_29 : decode cJ5_newCapacity_0f7a4 29 = .ok (.invokestatic 114, 3) := by decide +kernel
theorem dJ5_newCapacity_0f7a4_32 : decode cJ5_newCapacity_0f7a4 32 = .ok (.istore 5, 2) := by decide +kernel
theorem dJ5_newCapacity_0f7a4_34 : decode cJ5_newCapacity_0f7a4 34 = .ok (.iload 5, 2) := by decide +kernel
theorem dJ5_newCapacity_0f7a4_36 : decode cJ5_newCapacity_0f7a4 36 = .ok (.ldc 39, 2) := by decide +kernel
theorem dJ5_newCapacity_0f7a4_38 : decode cJ5_newCapacity_0f7a4 38 = .ok (.if_icmp .ne 13, 3) := by decide +kernel
theorem dJ5_newCapacity_0f7a4_41 : decode cJ5_newCapacity_0f7a4 41 = .ok (.new 120, 3) := by decide +kernel
theorem dJ5_newCapacity_0f7a4_44 : decode cJ5_newCapacity_0f7a4 44 = .ok (.dup, 1) := by decide +kernel
theorem dJ5_newCapacity_0f7a4_45 : decode cJ5_newCapacity_0f7a4 45 = .ok (.ldc 122, 2) := by decide +kernel
theorem dJ5_newCapacity_0f7a4_47 : decode cJ5_newCapacity_0f7a4 47 = .ok (.invokespecial 124, 3) := by decide +kernel
theorem dJ5_newCapacity_0f7a4_50 : decode cJ5_newCapacity_0f7a4 50 = .ok (.athrow, 1) := by decide +kernel
theorem dJ5_newCapacity_0f7a4_51 : decode cJ5_newCapacity_0f7a4 51 = .ok (.iload 5, 2) := by decide +kernel
theorem dJ5_newCapacity_0f7a4_53 : decode cJ5_newCapacity_0f7a4 53 = .ok (.aload_n 0, 1) := by decide +kernel
theorem dJ5_newCapacity_0f7a4_54 : decode cJ5_newCapacity_0f7a4 54 = .ok (.getfield 22, 3) := by decide +kernel
theorem dJ5_newCapacity_0f7a4_57 : decode cJ5_newCapacity_0f7a4 57 = .ok (.ishr, 1) := by decide +kernel
theorem dJ5_newCapacity_0f7a4_58 : decode cJ5_newCapacity_0f7a4 58 = .ok (.ireturn, 1) := by decide +kernel
theorem dJ5_inflate_da8c8_0 : decode cJ5_inflate_da8c8 0 = .ok (.aload_n 0, 1) := by decide +kernel
theorem dJ5_inflate_da8c8_1 : decode cJ5_inflate_da8c8 1 = .ok (.invokevirtual 83, 3) := by decide +kernel
theorem dJ5_inflate_da8c8_4 : decode cJ5_inflate_da8c8 4 = .ok (.ifCond .ne 4, 3) := by decide +kernel
theorem dJ5_inflate_da8c8_7 : decode cJ5_inflate_da8c8 7 = .ok (.return_, 1) := by decide +kernel
theorem dJ5_inflate_da8c8_8 : decode cJ5_inflate_da8c8 8 = .ok (.aload_n 0, 1) := by decide +kernel
theorem dJ5_inflate_da8c8_9 : decode cJ5_inflate_da8c8 9 = .ok (.getfield 15, 3) := by decide +kernel
theorem dJ5_inflate_da8c8_12 : decode cJ5_inflate_da8c8 12 = .ok (.arraylength, 1) := by decide +kernel
theorem dJ5_inflate_da8c8_13 : decode cJ5_inflate_da8c8 13 = .ok (.invokestatic 26, 3) := by decide +kernel
theorem dJ5_inflate_da8c8_16 : decode cJ5_inflate_da8c8 16 = .ok (.astore_n 1, 1) := by decide +kernel
theorem dJ5_inflate_da8c8_17 : decode cJ5_inflate_da8c8 17 = .ok (.aload_n 0, 1) := by decide +kernel
theorem dJ5_inflate_da8c8_18 : decode cJ5_inflate_da8c8 18 = .ok (.getfield 15, 3) := by decide +kernel
theorem dJ5_inflate_da8c8_21 : decode cJ5_inflate_da8c8 21 = .ok (.iconst 0, 1) := by decide +kernel
theorem dJ5_inflate_da8c8_22 : decode cJ5_inflate_da8c8 22 = .ok (.aload_n 1, 1) := by decide +kernel
theorem dJ5_inflate_da8c8_23 : decode cJ5_inflate_da8c8 23 = .ok (.iconst 0, 1) := by decide +kernel
theorem dJ5_inflate_da8c8_24 : decode cJ5_inflate_da8c8 24 = .ok (.aload_n 0, 1) := by decide +kernel
theorem dJ5_inflate_da8c8_25 : decode cJ5_inflate_da8c8 25 = .ok (.getfield 79, 3) := by decide +kernel
theorem dJ5_inflate_da8c8_28 : decode cJ5_inflate_da8c8 28 = .ok (.invokestatic 125, 3) := by decide +kernel
theorem dJ5_inflate_da8c8_31 : decode cJ5_inflate_da8c8 31 = .ok (.aload_n 0, 1) := by decide +kernel
theorem dJ5_inflate_da8c8_32 : decode cJ5_inflate_da8c8 32 = .ok (.aload_n 1, 1) := by decide +kernel
theorem dJ5_inflate_da8c8_33 : decode cJ5_inflate_da8c8 33 = .ok (.putfield 15, 3) := by decide +kernel
theorem dJ5_inflate_da8c8_36 : decode cJ5_inflate_da8c8 36 = .ok (.aload_n 0, 1) := by decide +kernel
theorem dJ5_inflate_da8c8_37 : decode cJ5_inflate_da8c8 37 = .ok (.iconst 1, 1) := by decide +kernel
theorem dJ5_inflate_da8c8_38 : decode cJ5_inflate_da8c8 38 = .ok (.putfield 22, 3) := by decide +kernel
theorem dJ5_inflate_da8c8_41 : decode cJ5_inflate_da8c8 41 = .ok (.return_, 1) := by decide +kernel
theorem dJ5_setLength_d00df_0 : decode cJ5_setLength_d00df 0 = .ok (.iload_n 1, 1) := by decide +kernel
theorem dJ5_setLength_d00df_1 : decode cJ5_setLength_d00df 1 = .ok (.ifCond .ge 12, 3) := by decide +kernel
theorem dJ5_setLength_d00df_4 : decode cJ5_setLength_d00df 4 = .ok (.new 129, 3) := by decide +kernel
theorem dJ5_setLength_d00df_7 : decode cJ5_setLength_d00df 7 = .ok (.dup, 1) := by decide +kernel
theorem dJ5_setLength_d00df_8 : decode cJ5_setLength_d00df 8 = .ok (.iload_n 1, 1) := by decide +kernel
theorem dJ5_setLength_d00df_9 : decode cJ5_setLength_d00df 9 = .ok (.invokespecial 131, 3) := by decide +kernel
theorem dJ5_setLength_d00df_12 : decode cJ5_setLength_d00df 12 = .ok (.athrow, 1) := by decide +kernel
theorem dJ5_setLength_d00df_13 : decode cJ5_setLength_d00df 13 = .ok (.aload_n 0, 1) := by decide +kernel
theorem dJ5_setLength_d00df_14 : decode cJ5_setLength_d00df 14 = .ok (.iload_n 1, 1) := by decide +kernel
theorem dJ5_setLength_d00df_15 : decode cJ5_setLength_d00df 15 = .ok (.invokevirtual 100, 3) := by decide +kernel
theorem dJ5_setLength_d00df_18 : decode cJ5_setLength_d00df 18 = .ok (.aload_n 0, 1) := by decide +kernel
theorem dJ5_setLength_d00df_19 : decode cJ5_setLength_d00df 19 = .ok (.getfield 79, 3) := by decide +kernel
theorem dJ5_setLength_d00df_22 : decode cJ5_setLength_d00df 22 = .ok (.iload_n 1, 1) := by decide +kernel
theorem dJ5_setLength_d00df_23 : decode cJ5_setLength_d00df 23 = .ok (.if_icmp .ge 40, 3) := by decide +kernel
theorem dJ5_setLength_d00df_26 : decode cJ5_setLength_d00df 26 = .ok (.aload_n 0, 1) := by decide +kernel
theorem dJ5_setLength_d00df_27 : decode cJ5_setLength_d00df 27 = .ok (.invokevirtual 83, 3) := by decide +kernel
theorem dJ5_setLength_d00df_30 : decode cJ5_setLength_d00df 30 = .ok (.ifCond .eq 18, 3) := by decide +kernel
theorem dJ5_setLength_d00df_33 : decode cJ5_setLength_d00df 33 = .ok (.aload_n 0, 1) := by decide +kernel
theorem dJ5_setLength_d00df_34 : decode cJ5_setLength_d00df 34 = .ok (.getfield 15, 3) := by decide +kernel
theorem dJ5_setLength_d00df_37 : decode cJ5_setLength_d00df 37 = .ok (.aload_n 0, 1) := by decide +kernel
theorem dJ5_setLength_d00df_38 : decode cJ5_setLength_d00df 38 = .ok (.getfield 79, 3) := by decide +kernel
theorem dJ5_setLength_d00df_41 : decode cJ5_setLength_d00df 41 = .ok (.iload_n 1, 1) := by decide +kernel
theorem dJ5_setLength_d00df_42 : decode cJ5_setLength_d00df 42 = .ok (.invokestatic 133, 3) := by decide +kernel
theorem dJ5_setLength_d00df_45 : decode cJ5_setLength_d00df 45 = .ok (.goto 31, 3) := by decide +kernel
theorem dJ5_setLength_d00df_48 : decode cJ5_setLength_d00df 48 = .ok (.aload_n 0, 1) := by decide +kernel
theorem dJ5_setLength_d00df_49 : decode cJ5_setLength_d00df 49 = .ok (.getfield 15, 3) := by decide +kernel
theorem dJ5_setLength_d00df_52 : decode cJ5_setLength_d00df 52 = .ok (.aload_n 0, 1) := by decide +kernel
theorem dJ5_setLength_d00df_53 : decode cJ5_setLength_d00df 53 = .ok (.getfield 79, 3) := by decide +kernel
theorem dJ5_setLength_d00df_56 : decode cJ5_setLength_d00df 56 = .ok (.iload_n 1, 1) := by decide +kernel
theorem dJ5_setLength_d00df_57 : decode cJ5_setLength_d00df 57 = .ok (.invokestatic 137, 3) := by decide +kernel
theorem dJ5_setLength_d00df_60 : decode cJ5_setLength_d00df 60 = .ok (.goto 16, 3) := by decide +kernel
theorem dJ5_setLength_d00df_63 : decode cJ5_setLength_d00df 63 = .ok (.aload_n 0, 1) := by decide +kernel
theorem dJ5_setLength_d00df_64 : decode cJ5_setLength_d00df 64 = .ok (.getfield 79, 3) := by decide +kernel
theorem dJ5_setLength_d00df_67 : decode cJ5_setLength_d00df 67 = .ok (.iload_n 1, 1) := by decide +kernel
theorem dJ5_setLength_d00df_68 : decode cJ5_setLength_d00df 68 = .ok (.if_icmp .le 8, 3) := by decide +kernel
theorem dJ5_setLength_d00df_71 : decode cJ5_setLength_d00df 71 = .ok (.aload_n 0, 1) := by decide +kernel
theorem dJ5_setLength_d00df_72 : decode cJ5_setLength_d00df 72 = .ok (.iconst 1, 1) := by decide +kernel
theorem dJ5_setLength_d00df_73 : decode cJ5_setLength_d00df 73 = .ok (.putfield 73, 3) := by decide +kernel
theorem dJ5_setLength_d00df_76 : decode cJ5_setLength_d00df 76 = .ok (.aload_n 0, 1) := by decide +kernel
theorem dJ5_setLength_d00df_77 : decode cJ5_setLength_d00df 77 = .ok (.iload_n 1, 1) := by decide +kernel
theorem dJ5_setLength_d00df_78 : decode cJ5_setLength_d00df 78 = .ok (.putfield 79, 3) := by decide +kernel
theorem dJ5_setLength_d00df_81 : decode cJ5_setLength_d00df 81 = .ok (.return_, 1) := by decide +kernel
theorem dJ5_charAt_5068e_0 : decode cJ5_charAt_5068e 0 = .ok (.aload_n 0, 1) := by decide +kernel
theorem dJ5_charAt_5068e_1 : decode cJ5_charAt_5068e 1 = .ok (.getfield 22, 3) := by decide +kernel
theorem dJ5_charAt_5068e_4 : decode cJ5_charAt_5068e 4 = .ok (.istore_n 2, 1) := by decide +kernel
theorem dJ5_charAt_5068e_5 : decode cJ5_charAt_5068e 5 = .ok (.aload_n 0, 1) := by decide +kernel
theorem dJ5_charAt_5068e_6 : decode cJ5_charAt_5068e 6 = .ok (.getfield 15, 3) := by decide +kernel
theorem dJ5_charAt_5068e_9 : decode cJ5_charAt_5068e 9 = .ok (.astore_n 3, 1) := by decide +kernel
theorem dJ5_charAt_5068e_10 : decode cJ5_charAt_5068e 10 = .ok (.aload_n 0, 1) := by decide +kernel
theorem dJ5_charAt_5068e_11 : decode cJ5_charAt_5068e 11 = .ok (.getfield 79, 3) := by decide +kernel
theorem dJ5_charAt_5068e_14 : decode cJ5_charAt_5068e 14 = .ok (.aload_n 3, 1) := by decide +kernel
theorem dJ5_charAt_5068e_15 : decode cJ5_charAt_5068e 15 = .ok (.arraylength, 1) := by decide +kernel
theorem dJ5_charAt_5068e_16 : decode cJ5_charAt_5068e 16 = .ok (.iload_n 2, 1) := by decide +kernel
theorem dJ5_charAt_5068e_17 : decode cJ5_charAt_5068e 17 = .ok (.ishr, 1) := by decide +kernel
theorem dJ5_charAt_5068e_18 : decode cJ5_charAt_5068e 18 = .ok (.invokestatic 138, 3) := by decide +kernel
theorem dJ5_charAt_5068e_21 : decode cJ5_charAt_5068e 21 = .ok (.istore 4, 2) := by decide +kernel
theorem dJ5_charAt_5068e_23 : decode cJ5_charAt_5068e 23 = .ok (.iload_n 1, 1) := by decide +kernel
theorem dJ5_charAt_5068e_24 : decode cJ5_charAt_5068e 24 = .ok (.iload 4, 2) := by decide +kernel
theorem dJ5_charAt_5068e_26 : decode cJ5_charAt_5068e 26 = .ok (.invokestatic 144, 3) := by decide +kernel
theorem dJ5_charAt_5068e_29 : decode cJ5_charAt_5068e 29 = .ok (.iload_n 2, 1) := by decide +kernel
theorem dJ5_charAt_5068e_30 : decode cJ5_charAt_5068e 30 = .ok (.ifCond .ne 12, 3) := by decide +kernel
theorem dJ5_charAt_5068e_33 : decode cJ5_charAt_5068e 33 = .ok (.aload_n 3, 1) := by decide +kernel
theorem dJ5_charAt_5068e_34 : decode cJ5_charAt_5068e 34 = .ok (.iload_n 1, 1) := by decide +kernel
theorem dJ5_charAt_5068e_35 : decode cJ5_charAt_5068e 35 = .ok (.baload, 1) := by decide +kernel
theorem dJ5_charAt_5068e_36 : decode cJ5_charAt_5068e 36 = .ok (.sipush 255, 3) := by decide +kernel
theorem dJ5_charAt_5068e_39 : decode cJ5_charAt_5068e 39 = .ok (.iand, 1) := by decide +kernel
theorem dJ5_charAt_5068e_40 : decode cJ5_charAt_5068e 40 = .ok (.i2c, 1) := by decide +kernel
theorem dJ5_charAt_5068e_41 : decode cJ5_charAt_5068e 41 = .ok (.ireturn, 1) := by decide +kernel
theorem dJ5_charAt_5068e_42 : decode cJ5_charAt_5068e 42 = .ok (.aload_n 3, 1) := by decide +kernel
theorem dJ5_charAt_5068e_43 : decode cJ5_charAt_5068e 43 = .ok (.iload_n 1, 1) := by decide +kernel
theorem dJ5_charAt_5068e_44 : decode cJ5_charAt_5068e 44 = .ok (.invokestatic 148, 3) := by decide +kernel
theorem dJ5_charAt_5068e_47 : decode cJ5_charAt_5068e 47 = .ok (.ireturn, 1) := by decide +kernel
theorem dJ5_append_3fe6f_0 : decode cJ5_append_3fe6f 0 = .ok (.aload_n 0, 1) := by decide +kernel
theorem dJ5_append_3fe6f_1 : decode cJ5_append_3fe6f 1 = .ok (.aload_n 0, 1) := by decide +kernel
theorem dJ5_append_3fe6f_2 : decode cJ5_append_3fe6f 2 = .ok (.getfield 79, 3) := by decide +kernel
theorem dJ5_append_3fe6f_5 : decode cJ5_append_3fe6f 5 = .ok (.iconst 1, 1) := by decide +kernel
theorem dJ5_append_3fe6f_6 : decode cJ5_append_3fe6f 6 = .ok (.iadd, 1) := by decide +kernel
theorem dJ5_append_3fe6f_7 : decode cJ5_append_3fe6f 7 = .ok (.invokevirtual 100, 3) := by decide +kernel
theorem dJ5_append_3fe6f_10 : decode cJ5_append_3fe6f 10 = .ok (.aload_n 0, 1) := by decide +kernel
theorem dJ5_append_3fe6f_11 : decode cJ5_append_3fe6f 11 = .ok (.invokevirtual 83, 3) := by decide +kernel
theorem dJ5_append_3fe6f_14 : decode cJ5_append_3fe6f 14 = .ok (.ifCond .eq 31, 3) := by decide +kernel
theorem dJ5_append_3fe6f_17 : decode cJ5_append_3fe6f 17 = .ok (.iload_n 1, 1) := by decide +kernel
theorem dJ5_append_3fe6f_18 : decode cJ5_append_3fe6f 18 = .ok (.invokestatic 191, 3) := by decide +kernel
theorem dJ5_append_3fe6f_21 : decode cJ5_append_3fe6f 21 = .ok (.ifCond .eq 24, 3) := by decide +kernel
theorem dJ5_append_3fe6f_24 : decode cJ5_append_3fe6f 24 = .ok (.aload_n 0, 1) := by decide +kernel
theorem dJ5_append_3fe6f_25 : decode cJ5_append_3fe6f 25 = .ok (.getfield 15, 3) := by decide +kernel
theorem dJ5_append_3fe6f_28 : decode cJ5_append_3fe6f 28 = .ok (.aload_n 0, 1) := by decide +kernel
theorem dJ5_append_3fe6f_29 : decode cJ5_append_3fe6f 29 = .ok (.dup, 1) := by decide +kernel
theorem dJ5_append_3fe6f_30 : decode cJ5_append_3fe6f 30 = .ok (.getfield 79, 3) := by decide +kernel
theorem dJ5_append_3fe6f_33 : decode cJ5_append_3fe6f 33 = .ok (.dup_x1, 1) := by decide +kernel
theorem dJ5_append_3fe6f_34 : decode cJ5_append_3fe6f 34 = .ok (.iconst 1, 1) := by decide +kernel
theorem dJ5_append_3fe6f_35 : decode cJ5_append_3fe6f 35 = .ok (.iadd, 1) := by decide +kernel
theorem dJ5_append_3fe6f_36 : decode cJ5_append_3fe6f 36 = .ok (.putfield 79, 3) := by decide +kernel
theorem dJ5_append_3fe6f_39 : decode cJ5_append_3fe6f 39 = .ok (.iload_n 1, 1) := by decide +kernel
theorem dJ5_append_3fe6f_40 : decode cJ5_append_3fe6f 40 = .ok (.i2b, 1) := by decide +kernel
theorem dJ5_append_3fe6f_41 : decode cJ5_append_3fe6f 41 = .ok (.bastore, 1) := by decide +kernel
theorem dJ5_append_3fe6f_42 : decode cJ5_append_3fe6f 42 = .ok (.goto 33, 3) := by decide +kernel
theorem dJ5_append_3fe6f_45 : decode cJ5_append_3fe6f 45 = .ok (.aload_n 0, 1) := by decide +kernel
theorem dJ5_append_3fe6f_46 : decode cJ5_append_3fe6f 46 = .ok (.invokevirtual 83, 3) := by decide +kernel
theorem dJ5_append_3fe6f_49 : decode cJ5_append_3fe6f 49 = .ok (.ifCond .eq 7, 3) := by decide +kernel
theorem dJ5_append_3fe6f_52 : decode cJ5_append_3fe6f 52 = .ok (.aload_n 0, 1) := by decide +kernel
theorem dJ5_append_3fe6f_53 : decode cJ5_append_3fe6f 53 = .ok (.invokevirtual 195, 3) := by decide +kernel
theorem dJ5_append_3fe6f_56 : decode cJ5_append_3fe6f 56 = .ok (.aload_n 0, 1) := by decide +kernel
theorem dJ5_append_3fe6f_57 : decode cJ5_append_3fe6f 57 = .ok (.getfield 15, 3) := by decide +kernel
theorem dJ5_append_3fe6f_60 : decode cJ5_append_3fe6f 60 = .ok (.aload_n 0, 1) := by decide +kernel
theorem dJ5_append_3fe6f_61 : decode cJ5_append_3fe6f 61 = .ok (.dup, 1) := by decide +kernel
theorem dJ5_append_3fe6f_62 : decode cJ5_append_3fe6f 62 = .ok (.getfield 79, 3) := by decide +kernel
theorem dJ5_append_3fe6f_65 : decode cJ5_append_3fe6f 65 = .ok (.dup_x1, 1) := by decide +kernel
theorem dJ5_append_3fe6f_66 : decode cJ5_append_3fe6f 66 = .ok (.iconst 1, 1) := by decide +kernel
theorem dJ5_append_3fe6f_67 : decode cJ5_append_3fe6f 67 = .ok (.iadd, 1) := by decide +kernel
theorem dJ5_append_3fe6f_68 : decode cJ5_append_3fe6f 68 = .ok (.putfield 79, 3) := by decide +kernel
theorem dJ5_append_3fe6f_71 : decode cJ5_append_3fe6f 71 = .ok (.iload_n 1, 1) := by decide +kernel
theorem dJ5_append_3fe6f_72 : decode cJ5_append_3fe6f 72 = .ok (.invokestatic 197, 3) := by decide +kernel
theorem dJ5_append_3fe6f_75 : decode cJ5_append_3fe6f 75 = .ok (.aload_n 0, 1) := by decide +kernel
theorem dJ5_append_3fe6f_76 : decode cJ5_append_3fe6f 76 = .ok (.areturn, 1) := by decide +kernel
theorem dJ5_append_c97b9_0 : decode cJ5_append_c97b9 0 = .ok (.aload_n 0, 1) := by decide +kernel
theorem dJ5_append_c97b9_1 : decode cJ5_append_c97b9 1 = .ok (.getfield 79, 3) := by decide +kernel
theorem dJ5_append_c97b9_4 : decode cJ5_append_c97b9 4 = .ok (.istore_n 2, 1) := by decide +kernel
theorem dJ5_append_c97b9_5 : decode cJ5_append_c97b9 5 = .ok (.iload_n 2, 1) := by decide +kernel
theorem dJ5_append_c97b9_6 : decode cJ5_append_c97b9 6 = .ok (.iload_n 1, 1) := by decide +kernel
theorem dJ5_append_c97b9_7 : decode cJ5_append_c97b9 7 = .ok (.invokestatic 245, 3) := by decide +kernel
theorem dJ5_append_c97b9_10 : decode cJ5_append_c97b9 10 = .ok (.iadd, 1) := by decide +kernel
theorem dJ5_append_c97b9_11 : decode cJ5_append_c97b9 11 = .ok (.istore_n 3, 1) := by decide +kernel
theorem dJ5_append_c97b9_12 : decode cJ5_append_c97b9 12 = .ok (.aload_n 0, 1) := by decide +kernel
theorem dJ5_append_c97b9_13 : decode cJ5_append_c97b9 13 = .ok (.iload_n 3, 1) := by decide +kernel
theorem dJ5_append_c97b9_14 : decode cJ5_append_c97b9 14 = .ok (.invokevirtual 100, 3) := by decide +kernel
theorem dJ5_append_c97b9_17 : decode cJ5_append_c97b9 17 = .ok (.aload_n 0, 1) := by decide +kernel
theorem dJ5_append_c97b9_18 : decode cJ5_append_c97b9 18 = .ok (.invokevirtual 83, 3) := by decide +kernel
theorem dJ5_append_c97b9_21 : decode cJ5_append_c97b9 21 = .ok (.ifCond .eq 16, 3) := by decide +kernel
theorem dJ5_append_c97b9_24 : decode cJ5_append_c97b9 24 = .ok (.iload_n 1, 1) := by decide +kernel
theorem dJ5_append_c97b9_25 : decode cJ5_append_c97b9 25 = .ok (.iload_n 3, 1) := by decide +kernel
theorem dJ5_append_c97b9_26 : decode cJ5_append_c97b9 26 = .ok (.aload_n 0, 1) := by decide +kernel
theorem dJ5_append_c97b9_27 : decode cJ5_append_c97b9 27 = .ok (.getfield 15, 3) := by decide +kernel
theorem dJ5_append_c97b9_30 : decode cJ5_append_c97b9 30 = .ok (.invokestatic 248, 3) := by decide +kernel
theorem dJ5_append_c97b9_33 : decode cJ5_append_c97b9 33 = .ok (.pop, 1) := by decide +kernel
theorem dJ5_append_c97b9_34 : decode cJ5_append_c97b9 34 = .ok (.goto 14, 3) := by decide +kernel
theorem dJ5_append_c97b9_37 : decode cJ5_append_c97b9 37 = .ok (.iload_n 1, 1) := by decide +kernel
theorem dJ5_append_c97b9_38 : decode cJ5_append_c97b9 38 = .ok (.iload_n 2, 1) := by decide +kernel
theorem dJ5_append_c97b9_39 : decode cJ5_append_c97b9 39 = .ok (.iload_n 3, 1) := by decide +kernel
theorem dJ5_append_c97b9_40 : decode cJ5_append_c97b9 40 = .ok (.aload_n 0, 1) := by decide +kernel
theorem dJ5_append_c97b9_41 : decode cJ5_append_c97b9 41 = .ok (.getfield 15, 3) := by decide +kernel
theorem dJ5_append_c97b9_44 : decode cJ5_append_c97b9 44 = .ok (.invokestatic 251, 3) := by decide +kernel
theorem dJ5_append_c97b9_47 : decode cJ5_append_c97b9 47 = .ok (.pop, 1) := by decide +kernel
theorem dJ5_append_c97b9_48 : decode cJ5_append_c97b9 48 = .ok (.aload_n 0, 1) := by decide +kernel
theorem dJ5_append_c97b9_49 : decode cJ5_append_c97b9 49 = .ok (.iload_n 3, 1) := by decide +kernel
theorem dJ5_append_c97b9_50 : decode cJ5_append_c97b9 50 = .ok (.putfield 79, 3) := by decide +kernel
theorem dJ5_append_c97b9_53 : decode cJ5_append_c97b9 53 = .ok (.aload_n 0, 1) := by decide +kernel
theorem dJ5_append_c97b9_54 : decode cJ5_append_c97b9 54 = .ok (.areturn, 1) := by decide +kernel
theorem dJ5_isLatin1_aae02_0 : decode cJ5_isLatin1_aae02 0 = .ok (.getstatic 18, 3) := by decide +kernel
theorem dJ5_isLatin1_aae02_3 : decode cJ5_isLatin1_aae02 3 = .ok (.ifCond .eq 14, 3) := by decide +kernel
theorem dJ5_isLatin1_aae02_6 : decode cJ5_isLatin1_aae02 6 = .ok (.aload_n 0, 1) := by decide +kernel
theorem dJ5_isLatin1_aae02_7 : decode cJ5_isLatin1_aae02 7 = .ok (.getfield 22, 3) := by decide +kernel
theorem dJ5_isLatin1_aae02_10 : decode cJ5_isLatin1_aae02 10 = .ok (.ifCond .ne 7, 3) := by decide +kernel
theorem dJ5_isLatin1_aae02_13 : decode cJ5_isLatin1_aae02 13 = .ok (.iconst 1, 1) := by decide +kernel
theorem dJ5_isLatin1_aae02_14 : decode cJ5_isLatin1_aae02 14 = .ok (.goto 4, 3) := by decide +kernel
theorem dJ5_isLatin1_aae02_17 : decode cJ5_isLatin1_aae02 17 = .ok (.iconst 0, 1) := by decide +kernel
theorem dJ5_isLatin1_aae02_18 : decode cJ5_isLatin1_aae02 18 = .ok (.ireturn, 1) := by decide +kernel
theorem dJ6_getChars_ba4f3_0 : decode cJ6_getChars_ba4f3 0 = .ok (.iload_n 1, 1) := by decide +kernel
theorem dJ6_getChars_ba4f3_1 : decode cJ6_getChars_ba4f3 1 = .ok (.istore 5, 2) := by decide +kernel
theorem dJ6_getChars_ba4f3_3 : decode cJ6_getChars_ba4f3 3 = .ok (.iload_n 0, 1) := by decide +kernel
theorem dJ6_getChars_ba4f3_4 : decode cJ6_getChars_ba4f3 4 = .ok (.ifCond .ge 7, 3) := by decide +kernel
theorem dJ6_getChars_ba4f3_7 : decode cJ6_getChars_ba4f3 7 = .ok (.iconst 1, 1) := by decide +kernel
theorem dJ6_getChars_ba4f3_8 : decode cJ6_getChars_ba4f3 8 = .ok (.goto 4, 3) := by decide +kernel
theorem dJ6_getChars_ba4f3_11 : decode cJ6_getChars_ba4f3 11 = .ok (.iconst 0, 1) := by decide +kernel
theorem dJ6_getChars_ba4f3_12 : decode cJ6_getChars_ba4f3 12 = .ok (.istore 6, 2) := by decide +kernel
theorem dJ6_getChars_ba4f3_14 : decode cJ6_getChars_ba4f3 14 = .ok (.iload 6, 2) := by decide +kernel
theorem dJ6_getChars_ba4f3_16 : decode cJ6_getChars_ba4f3 16 = .ok (.ifCond .ne 6, 3) := by decide +kernel
theorem dJ6_getChars_ba4f3_19 : decode cJ6_getChars_ba4f3 19 = .ok (.iload_n 0, 1) := by decide +kernel
theorem dJ6_getChars_ba4f3_20 : decode cJ6_getChars_ba4f3 20 = .ok (.ineg, 1) := by decide +kernel
theorem dJ6_getChars_ba4f3_21 : decode cJ6_getChars_ba4f3 21 = .ok (.istore_n 0, 1) := by decide +kernel
theorem dJ6_getChars_ba4f3_22 : decode cJ6_getChars_ba4f3 22 = .ok (.iload_n 0, 1) := by decide +kernel
theorem dJ6_getChars_ba4f3_23 : decode cJ6_getChars_ba4f3 23 = .ok (.bipush (-100), 2) := by decide +kernel
theorem dJ6_getChars_ba4f3_25 : decode cJ6_getChars_ba4f3 25 = .ok (.if_icmp .gt 47, 3) := by decide +kernel
theorem dJ6_getChars_ba4f3_28 : decode cJ6_getChars_ba4f3 28 = .ok (.iload_n 0, 1) := by decide +kernel
theorem dJ6_getChars_ba4f3_29 : decode cJ6_getChars_ba4f3 29 = .ok (.bipush 100, 2) := by decide +kernel
theorem dJ6_getChars_ba4f3_31 : decode cJ6_getChars_ba4f3 31 = .ok (.idiv, 1) := by decide +kernel
theorem dJ6_getChars_ba4f3_32 : decode cJ6_getChars_ba4f3 32 = .ok (.istore_n 3, 1) := by decide +kernel
theorem dJ6_getChars_ba4f3_33 : decode cJ6_getChars_ba4f3 33 = .ok (.iload_n 3, 1) := by decide +kernel
theorem dJ6_getChars_ba4f3_34 : decode cJ6_getChars_ba4f3 34 = .ok (.bipush 100, 2) := by decide +kernel
theorem dJ6_getChars_ba4f3_36 : decode cJ6_getChars_ba4f3 36 = .ok (.imul, 1) := by decide +kernel
theorem dJ6_getChars_ba4f3_37 : decode cJ6_getChars_ba4f3 37 = .ok (.iload_n 0, 1) := by decide +kernel
theorem dJ6_getChars_ba4f3_38 : decode cJ6_getChars_ba4f3 38 = .ok (.isub, 1) := by decide +kernel
theorem dJ6_getChars_ba4f3_39 : decode cJ6_getChars_ba4f3 39 = .ok (.istore 4, 2) := by decide +kernel
theorem dJ6_getChars_ba4f3_41 : decode cJ6_getChars_ba4f3 41 = .ok (.iload_n 3, 1) := by decide +kernel
theorem dJ6_getChars_ba4f3_42 : decode cJ6_getChars_ba4f3 42 = .ok (.istore_n 0, 1) := by decide +kernel
theorem dJ6_getChars_ba4f3_43 : decode cJ6_getChars_ba4f3 43 = .ok (.aload_n 2, 1) := by decide +kernel
theorem dJ6_getChars_ba4f3_44 : decode cJ6_getChars_ba4f3 44 = .ok (.iinc 5 (-1), 3) := by decide +kernel
theorem dJ6_getChars_ba4f3_47 : decode cJ6_getChars_ba4f3 47 = .ok (.iload 5, 2) := by decide +kernel
theorem dJ6_getChars_ba4f3_49 : decode cJ6_getChars_ba4f3 49 = .ok (.getstatic 83, 3) := by decide +kernel
theorem dJ6_getChars_ba4f3_52 : decode cJ6_getChars_ba4f3 52 = .ok (.iload 4, 2) := by decide +kernel
theorem dJ6_getChars_ba4f3_54 : decode cJ6_getChars_ba4f3 54 = .ok (.baload, 1) := by decide +kernel
theorem dJ6_getChars_ba4f3_55 : decode cJ6_getChars_ba4f3 55 = .ok (.bastore, 1) := by decide +kernel
theorem dJ6_getChars_ba4f3_56 : decode cJ6_getChars_ba4f3 56 = .ok (.aload_n 2, 1) := by decide +kernel
theorem dJ6_getChars_ba4f3_57 : decode cJ6_getChars_ba4f3 57 = .ok (.iinc 5 (-1), 3) := by decide +kernel
theorem dJ6_getChars_ba4f3_60 : decode cJ6_getChars_ba4f3 60 = .ok (.iload 5, 2) := by decide +kernel
theorem dJ6_getChars_ba4f3_62 : decode cJ6_getChars_ba4f3 62 = .ok (.getstatic 87, 3) := by decide +kernel
theorem dJ6_getChars_ba4f3_65 : decode cJ6_getChars_ba4f3 65 = .ok (.iload 4, 2) := by decide +kernel
theorem dJ6_getChars_ba4f3_67 : decode cJ6_getChars_ba4f3 67 = .ok (.baload, 1) := by decide +kernel
theorem dJ6_getChars_ba4f3_68 : decode cJ6_getChars_ba4f3 68 = .ok (.bastore, 1) := by decide +kernel
theorem dJ6_getChars_ba4f3_69 : decode cJ6_getChars_ba4f3 69 = .ok (.goto (-47), 3) := by decide +kernel
theorem dJ6_getChars_ba4f3_72 : decode cJ6_getChars_ba4f3 72 = .ok (.aload_n 2, 1) := by decide +kernel
theorem dJ6_getChars_ba4f3_73 : decode cJ6_getChars_ba4f3 73 = .ok (.iinc 5 (-1), 3) := by decide +kernel
theorem dJ6_getChars_ba4f3_76 : decode cJ6_getChars_ba4f3 76 = .ok (.iload 5, 2) := by decide +kernel
theorem dJ6_getChars_ba4f3_78 : decode cJ6_getChars_ba4f3 78 = .ok (.getstatic 83, 3) := by decide +kernel
theorem dJ6_getChars_ba4f3_81 : decode cJ6_getChars_ba4f3 81 = .ok (.iload_n 0, 1) := by decide +kernel
theorem dJ6_getChars_ba4f3_82 : decode cJ6_getChars_ba4f3 82 = .ok (.ineg, 1) := by decide +kernel
theorem dJ6_getChars_ba4f3_83 : decode cJ6_getChars_ba4f3 83 = .ok (.baload, 1) := by decide +kernel
theorem dJ6_getChars_ba4f3_84 : decode cJ6_getChars_ba4f3 84 = .ok (.bastore, 1) := by decide +kernel
theorem dJ6_getChars_ba4f3_85 : decode cJ6_getChars_ba4f3 85 = .ok (.iload_n 0, 1) := by decide +kernel
theorem dJ6_getChars_ba4f3_86 : decode cJ6_getChars_ba4f3 86 = .ok (.bipush (-9), 2) := by decide +kernel
theorem dJ6_getChars_ba4f3_88 : decode cJ6_getChars_ba4f3 88 = .ok (.if_icmp .ge 16, 3) := by decide +kernel
theorem dJ6_getChars_ba4f3_91 : decode cJ6_getChars_ba4f3 91 = .ok (.aload_n 2, 1) := by decide +kernel
theorem dJ6_getChars_ba4f3_92 : decode cJ6_getChars_ba4f3 92 = .ok (.iinc 5 (-1), 3) := by decide +kernel
theorem dJ6_getChars_ba4f3_95 : decode cJ6_getChars_ba4f3 95 = .ok (.iload 5, 2) := by decide +kernel
theorem dJ6_getChars_ba4f3_97 : decode cJ6_getChars_ba4f3 97 = .ok (.getstatic 87, 3) := by decide +kernel
theorem dJ6_getChars_ba4f3_100 : decode cJ6_getChars_ba4f3 100 = .ok (.iload_n 0, 1) := by decide +kernel
theorem dJ6_getChars_ba4f3_101 : decode cJ6_getChars_ba4f3 101 = .ok (.ineg, 1) := by decide +kernel
theorem dJ6_getChars_ba4f3_102 : decode cJ6_getChars_ba4f3 102 = .ok (.baload, 1) := by decide +kernel
theorem dJ6_getChars_ba4f3_103 : decode cJ6_getChars_ba4f3 103 = .ok (.bastore, 1) := by decide +kernel
theorem dJ6_getChars_ba4f3_104 : decode cJ6_getChars_ba4f3 104 = .ok (.iload 6, 2) := by decide +kernel
theorem dJ6_getChars_ba4f3_106 : decode cJ6_getChars_ba4f3 106 = .ok (.ifCond .eq 12, 3) := by decide +kernel
theorem dJ6_getChars_ba4f3_109 : decode cJ6_getChars_ba4f3 109 = .ok (.aload_n 2, 1) := by decide +kernel
theorem dJ6_getChars_ba4f3_110 : decode cJ6_getChars_ba4f3 110 = .ok (.iinc 5 (-1), 3) := by decide +kernel
theorem dJ6_getChars_ba4f3_113 : decode cJ6_getChars_ba4f3 113 = .ok (.iload 5, 2) := by decide +kernel
theorem dJ6_getChars_ba4f3_115 : decode cJ6_getChars_ba4f3 115 = .ok (.bipush 45, 2) := by decide +kernel
theorem dJ6_getChars_ba4f3_117 : decode cJ6_getChars_ba4f3 117 = .ok (.bastore, 1) := by decide +kernel
theorem dJ6_getChars_ba4f3_118 : decode cJ6_getChars_ba4f3 118 = .ok (.iload 5, 2) := by decide +kernel
theorem dJ6_getChars_ba4f3_120 : decode cJ6_getChars_ba4f3 120 = .ok (.ireturn, 1) := by decide +kernel
theorem dJ6_stringSize_0f7a4_0 : decode cJ6_stringSize_0f7a4 0 = .ok (.iconst 1, 1) := by decide +kernel
theorem dJ6_stringSize_0f7a4_1 : decode cJ6_stringSize_0f7a4 1 = .ok (.istore_n 1, 1) := by decide +kernel
theorem dJ6_stringSize_0f7a4_2 : decode cJ6_stringSize_0f7a4 2 = .ok (.iload_n 0, 1) := by decide +kernel
theorem dJ6_stringSize_0f7a4_3 : decode cJ6_stringSize_0f7a4 3 = .ok (.ifCond .lt 8, 3) := by decide +kernel
theorem dJ6_stringSize_0f7a4_6 : decode cJ6_stringSize_0f7a4 6 = .ok (.iconst 0, 1) := by decide +kernel
theorem dJ6_stringSize_0f7a4_7 : decode cJ6_stringSize_0f7a4 7 = .ok (.istore_n 1, 1) := by decide +kernel
theorem dJ6_stringSize_0f7a4_8 : decode cJ6_stringSize_0f7a4 8 = .ok (.iload_n 0, 1) := by decide +kernel
theorem dJ6_stringSize_0f7a4_9 : decode cJ6_stringSize_0f7a4 9 = .ok (.ineg, 1) := by decide +kernel
theorem dJ6_stringSize_0f7a4_10 : decode cJ6_stringSize_0f7a4 10 = .ok (.istore_n 0, 1) := by decide +kernel
theorem dJ6_stringSize_0f7a4_11 : decode cJ6_stringSize_0f7a4 11 = .ok (.bipush (-10), 2) := by decide +kernel
theorem dJ6_stringSize_0f7a4_13 : decode cJ6_stringSize_0f7a4 13 = .ok (.istore_n 2, 1) := by decide +kernel
theorem dJ6_stringSize_0f7a4_14 : decode cJ6_stringSize_0f7a4 14 = .ok (.iconst 1, 1) := by decide +kernel
theorem dJ6_stringSize_0f7a4_15 : decode cJ6_stringSize_0f7a4 15 = .ok (.istore_n 3, 1) := by decide +kernel
theorem dJ6_stringSize_0f7a4_16 : decode cJ6_stringSize_0f7a4 16 = .ok (.iload_n 3, 1) := by decide +kernel
theorem dJ6_stringSize_0f7a4_17 : decode cJ6_stringSize_0f7a4 17 = .ok (.bipush 10, 2) := by decide +kernel
theorem dJ6_stringSize_0f7a4_19 : decode cJ6_stringSize_0f7a4 19 = .ok (.if_icmp .ge 23, 3) := by decide +kernel
theorem dJ6_stringSize_0f7a4_22 : decode cJ6_stringSize_0f7a4 22 = .ok (.iload_n 0, 1) := by decide +kernel
theorem dJ6_stringSize_0f7a4_23 : decode cJ6_stringSize_0f7a4 23 = .ok (.iload_n 2, 1) := by decide +kernel
theorem dJ6_stringSize_0f7a4_24 : decode cJ6_stringSize_0f7a4 24 = .ok (.if_icmp .le 7, 3) := by decide +kernel
theorem dJ6_stringSize_0f7a4_27 : decode cJ6_stringSize_0f7a4 27 = .ok (.iload_n 3, 1) := by decide +kernel
theorem dJ6_stringSize_0f7a4_28 : decode cJ6_stringSize_0f7a4 28 = .ok (.iload_n 1, 1) := by decide +kernel
theorem dJ6_stringSize_0f7a4_29 : decode cJ6_stringSize_0f7a4 29 = .ok (.iadd, 1) := by decide +kernel
theorem dJ6_stringSize_0f7a4_30 : decode cJ6_stringSize_0f7a4 30 = .ok (.ireturn, 1) := by decide +kernel
theorem dJ6_stringSize_0f7a4_31 : decode cJ6_stringSize_0f7a4 31 = .ok (.bipush 10, 2) := by decide +kernel
theorem dJ6_stringSize_0f7a4_33 : decode cJ6_stringSize_0f7a4 33 = .ok (.iload_n 2, 1) := by decide +kernel
theorem dJ6_stringSize_0f7a4_34 : decode cJ6_stringSize_0f7a4 34 = .ok (.imul, 1) := by decide +kernel
theorem dJ6_stringSize_0f7a4_35 : decode cJ6_stringSize_0f7a4 35 = .ok (.istore_n 2, 1) := by decide +kernel
theorem dJ6_stringSize_0f7a4_36 : decode cJ6_stringSize_0f7a4 36 = .ok (.iinc 3 1, 3) := by decide +kernel
theorem dJ6_stringSize_0f7a4_39 : decode cJ6_stringSize_0f7a4 39 = .ok (.goto (-23), 3) := by decide +kernel
theorem dJ6_stringSize_0f7a4_42 : decode cJ6_stringSize_0f7a4 42 = .ok (.bipush 10, 2) := by decide +kernel
theorem dJ6_stringSize_0f7a4_44 : decode cJ6_stringSize_0f7a4 44 = .ok (.iload_n 1, 1) := by decide +kernel
theorem dJ6_stringSize_0f7a4_45 : decode cJ6_stringSize_0f7a4 45 = .ok (.iadd, 1) := by decide +kernel
theorem dJ6_stringSize_0f7a4_46 : decode cJ6_stringSize_0f7a4 46 = .ok (.ireturn, 1) := by decide +kernel
theorem dJ9_max_7cf53_0 : decode cJ9_max_7cf53 0 = .ok (.iload_n 0, 1) := by decide +kernel
theorem dJ9_max_7cf53_1 : decode cJ9_max_7cf53 1 = .ok (.iload_n 1, 1) := by decide +kernel
theorem dJ9_max_7cf53_2 : decode cJ9_max_7cf53 2 = .ok (.if_icmp .lt 7, 3) := by decide +kernel
theorem dJ9_max_7cf53_5 : decode cJ9_max_7cf53 5 = .ok (.iload_n 0, 1) := by decide +kernel
theorem dJ9_max_7cf53_6 : decode cJ9_max_7cf53 6 = .ok (.goto 4, 3) := by decide +kernel
theorem dJ9_max_7cf53_9 : decode cJ9_max_7cf53 9 = .ok (.iload_n 1, 1) := by decide +kernel
theorem dJ9_max_7cf53_10 : decode cJ9_max_7cf53 10 = .ok (.ireturn, 1) := by decide +kernel
theorem dJ9_min_7cf53_0 : decode cJ9_min_7cf53 0 = .ok (.iload_n 0, 1) := by decide +kernel
theorem dJ9_min_7cf53_1 : decode cJ9_min_7cf53 1 = .ok (.iload_n 1, 1) := by decide +kernel
theorem dJ9_min_7cf53_2 : decode cJ9_min_7cf53 2 = .ok (.if_icmp .gt 7, 3) := by decide +kernel
theorem dJ9_min_7cf53_5 : decode cJ9_min_7cf53 5 = .ok (.iload_n 0, 1) := by decide +kernel
theorem dJ9_min_7cf53_6 : decode cJ9_min_7cf53 6 = .ok (.goto 4, 3) := by decide +kernel
theorem dJ9_min_7cf53_9 : decode cJ9_min_7cf53 9 = .ok (.iload_n 1, 1) := by decide +kernel
theorem dJ9_min_7cf53_10 : decode cJ9_min_7cf53 10 = .ok (.ireturn, 1) := by decide +kernel
theorem dJ0_checkIndex_df160_0 : decode cJ0_checkIndex_df160 0 = .ok (.iload_n 0, 1) := by decide +kernel
theorem dJ0_checkIndex_df160_1 : decode cJ0_checkIndex_df160 1 = .ok (.iload_n 1, 1) := by decide +kernel
theorem dJ0_checkIndex_df160_2 : decode cJ0_checkIndex_df160 2 = .ok (.getstatic 1053, 3) := by decide +kernel
theorem dJ0_checkIndex_df160_5 : decode cJ0_checkIndex_df160 5 = .ok (.invokestatic 1059, 3) := by decide +kernel
theorem dJ0_checkIndex_df160_8 : decode cJ0_checkIndex_df160 8 = .ok (.pop, 1) := by decide +kernel
theorem dJ0_checkIndex_df160_9 : decode cJ0_checkIndex_df160 9 = .ok (.return_, 1) := by decide +kernel
theorem dJ0_checkBoundsOffCount_cabcc_0 : decode cJ0_checkBoundsOffCount_cabcc 0 = .ok (.iload_n 0, 1) := by decide +kernel
theorem dJ0_checkBoundsOffCount_cabcc_1 : decode cJ0_checkBoundsOffCount_cabcc 1 = .ok (.iload_n 1, 1) := by decide +kernel
theorem dJ0_checkBoundsOffCount_cabcc_2 : decode cJ0_checkBoundsOffCount_cabcc 2 = .ok (.iload_n 2, 1) := by decide +kernel
theorem dJ0_checkBoundsOffCount_cabcc_3 : decode cJ0_checkBoundsOffCount_cabcc 3 = .ok (.getstatic 1053, 3) := by decide +kernel
theorem dJ0_checkBoundsOffCount_cabcc_6 : decode cJ0_checkBoundsOffCount_cabcc 6 = .ok (.invokestatic 1065, 3) := by decide +kernel
theorem dJ0_checkBoundsOffCount_cabcc_9 : decode cJ0_checkBoundsOffCount_cabcc 9 = .ok (.ireturn, 1) := by decide +kernel
theorem dJ0_checkBoundsBeginEnd_23922_0 : decode cJ0_checkBoundsBeginEnd_23922 0 = .ok (.iload_n 0, 1) := by decide +kernel
theorem dJ0_checkBoundsBeginEnd_23922_1 : decode cJ0_checkBoundsBeginEnd_23922 1 = .ok (.iload_n 1, 1) := by decide +kernel
theorem dJ0_checkBoundsBeginEnd_23922_2 : decode cJ0_checkBoundsBeginEnd_23922 2 = .ok (.iload_n 2, 1) := by decide +kernel
theorem dJ0_checkBoundsBeginEnd_23922_3 : decode cJ0_checkBoundsBeginEnd_23922 3 = .ok (.getstatic 1053, 3) := by decide +kernel
theorem dJ0_checkBoundsBeginEnd_23922_6 : decode cJ0_checkBoundsBeginEnd_23922 6 = .ok (.invokestatic 1062, 3) := by decide +kernel
theorem dJ0_checkBoundsBeginEnd_23922_9 : decode cJ0_checkBoundsBeginEnd_23922 9 = .ok (.pop, 1) := by decide +kernel
theorem dJ0_checkBoundsBeginEnd_23922_10 : decode cJ0_checkBoundsBeginEnd_23922 10 = .ok (.return_, 1) := by decide +kernel
theorem dJ4_init_da8c8_0 : decode cJ4_init_da8c8 0 = .ok (.aload_n 0, 1) := by decide +kernel
theorem dJ4_init_da8c8_1 : decode cJ4_init_da8c8 1 = .ok (.bipush 16, 2) := by decide +kernel
theorem dJ4_init_da8c8_3 : decode cJ4_init_da8c8 3 = .ok (.invokespecial 1, 3) := by decide +kernel
end
section
theorem dJ4_init_da8c8_6 : decode cJ4_init_da8c8 6 = .ok (.return_, 1) := by decide +kernel
theorem dJ4_append_cf468_0 : decode cJ4_append_cf468 0 = .ok (.aload_n 0, 1) := by decide +kernel
theorem dJ4_append_cf468_1 : decode cJ4_append_cf468 1 = .ok (.iload_n 1, 1) := by decide +kernel
theorem dJ4_append_cf468_2 : decode cJ4_append_cf468 2 = .ok (.invokespecial 50, 3) := by decide +kernel
theorem dJ4_append_cf468_5 : decode cJ4_append_cf468 5 = .ok (.pop, 1) := by decide +kernel
theorem dJ4_append_cf468_6 : decode cJ4_append_cf468 6 = .ok (.aload_n 0, 1) := by decide +kernel
theorem dJ4_append_cf468_7 : decode cJ4_append_cf468 7 = .ok (.areturn, 1) := by decide +kernel
theorem dJ4_append_bf812_0 : decode cJ4_append_bf812 0 = .ok (.aload_n 0, 1) := by decide +kernel
theorem dJ4_append_bf812_1 : decode cJ4_append_bf812 1 = .ok (.iload_n 1, 1) := by decide +kernel
theorem dJ4_append_bf812_2 : decode cJ4_append_bf812 2 = .ok (.invokespecial 53, 3) := by decide +kernel
theorem dJ4_append_bf812_5 : decode cJ4_append_bf812 5 = .ok (.pop, 1) := by decide +kernel
theorem dJ4_append_bf812_6 : decode cJ4_append_bf812 6 = .ok (.aload_n 0, 1) := by decide +kernel
theorem dJ4_append_bf812_7 : decode cJ4_append_bf812 7 = .ok (.areturn, 1) := by decide +kernel
theorem dJ4_charAt_5068e_0 : decode cJ4_charAt_5068e 0 = .ok (.aload_n 0, 1) := by decide +kernel
theorem dJ4_charAt_5068e_1 : decode cJ4_charAt_5068e 1 = .ok (.iload_n 1, 1) := by decide +kernel
theorem dJ4_charAt_5068e_2 : decode cJ4_charAt_5068e 2 = .ok (.invokespecial 329, 3) := by decide +kernel
theorem dJ4_charAt_5068e_5 : decode cJ4_charAt_5068e 5 = .ok (.ireturn, 1) := by decide +kernel
theorem dJ4_setLength_d00df_0 : decode cJ4_setLength_d00df 0 = .ok (.aload_n 0, 1) := by decide +kernel
theorem dJ4_setLength_d00df_1 : decode cJ4_setLength_d00df 1 = .ok (.iload_n 1, 1) := by decide +kernel
theorem dJ4_setLength_d00df_2 : decode cJ4_setLength_d00df 2 = .ok (.invokespecial 333, 3) := by decide +kernel
theorem dJ4_setLength_d00df_5 : decode cJ4_setLength_d00df 5 = .ok (.return_, 1) := by decide +kernel
theorem dJ4_length_8abf5_0 : decode cJ4_length_8abf5 0 = .ok (.aload_n 0, 1) := by decide +kernel
theorem dJ4_length_8abf5_1 : decode cJ4_length_8abf5 1 = .ok (.invokespecial 343, 3) := by decide +kernel
theorem dJ4_length_8abf5_4 : decode cJ4_length_8abf5 4 = .ok (.ireturn, 1) := by decide +kernel
theorem dJ1_canEncode_fc78d_0 : decode cJ1_canEncode_fc78d 0 = .ok (.iload_n 0, 1) := by decide +kernel
theorem dJ1_canEncode_fc78d_1 : decode cJ1_canEncode_fc78d 1 = .ok (.sipush 255, 3) := by decide +kernel
theorem dJ1_canEncode_fc78d_4 : decode cJ1_canEncode_fc78d 4 = .ok (.if_icmp .gt 7, 3) := by decide +kernel
theorem dJ1_canEncode_fc78d_7 : decode cJ1_canEncode_fc78d 7 = .ok (.iconst 1, 1) := by decide +kernel
theorem dJ1_canEncode_fc78d_8 : decode cJ1_canEncode_fc78d 8 = .ok (.goto 4, 3) := by decide +kernel
theorem dJ1_canEncode_fc78d_11 : decode cJ1_canEncode_fc78d 11 = .ok (.iconst 0, 1) := by decide +kernel
theorem dJ1_canEncode_fc78d_12 : decode cJ1_canEncode_fc78d 12 = .ok (.ireturn, 1) := by decide +kernel
theorem dJ1_fillNull_b72d1_0 : decode cJ1_fillNull_b72d1 0 = .ok (.aload_n 0, 1) := by decide +kernel
theorem dJ1_fillNull_b72d1_1 : decode cJ1_fillNull_b72d1 1 = .ok (.iload_n 1, 1) := by decide +kernel
theorem dJ1_fillNull_b72d1_2 : decode cJ1_fillNull_b72d1 2 = .ok (.iload_n 2, 1) := by decide +kernel
theorem dJ1_fillNull_b72d1_3 : decode cJ1_fillNull_b72d1 3 = .ok (.iconst 0, 1) := by decide +kernel
theorem dJ1_fillNull_b72d1_4 : decode cJ1_fillNull_b72d1 4 = .ok (.invokestatic 236, 3) := by decide +kernel
theorem dJ1_fillNull_b72d1_7 : decode cJ1_fillNull_b72d1 7 = .ok (.return_, 1) := by decide +kernel
theorem dJ1_inflate_0e8fd_0 : decode cJ1_inflate_0e8fd 0 = .ok (.aload_n 0, 1) := by decide +kernel
theorem dJ1_inflate_0e8fd_1 : decode cJ1_inflate_0e8fd 1 = .ok (.iload_n 1, 1) := by decide +kernel
theorem dJ1_inflate_0e8fd_2 : decode cJ1_inflate_0e8fd 2 = .ok (.aload_n 2, 1) := by decide +kernel
theorem dJ1_inflate_0e8fd_3 : decode cJ1_inflate_0e8fd 3 = .ok (.iload_n 3, 1) := by decide +kernel
theorem dJ1_inflate_0e8fd_4 : decode cJ1_inflate_0e8fd 4 = .ok (.iload 4, 2) := by decide +kernel
theorem dJ1_inflate_0e8fd_6 : decode cJ1_inflate_0e8fd 6 = .ok (.invokestatic 240, 3) := by decide +kernel
theorem dJ1_inflate_0e8fd_9 : decode cJ1_inflate_0e8fd 9 = .ok (.return_, 1) := by decide +kernel
theorem dJ2_newBytesFor_77867_0 : decode cJ2_newBytesFor_77867 0 = .ok (.iload_n 0, 1) := by decide +kernel
theorem dJ2_newBytesFor_77867_1 : decode cJ2_newBytesFor_77867 1 = .ok (.invokestatic 11, 3) := by decide +kernel
theorem dJ2_newBytesFor_77867_4 : decode cJ2_newBytesFor_77867 4 = .ok (.newarray .byte, 2) := by decide +kernel
theorem dJ2_newBytesFor_77867_6 : decode cJ2_newBytesFor_77867 6 = .ok (.areturn, 1) := by decide +kernel
theorem dJ2_newBytesLength_0f7a4_0 : decode cJ2_newBytesLength_0f7a4 0 = .ok (.iload_n 0, 1) := by decide +kernel
theorem dJ2_newBytesLength_0f7a4_1 : decode cJ2_newBytesLength_0f7a4 1 = .ok (.ifCond .ge 11, 3) := by decide +kernel
theorem dJ2_newBytesLength_0f7a4_4 : decode cJ2_newBytesLength_0f7a4 4 = .ok (.new 17, 3) := by decide +kernel
theorem dJ2_newBytesLength_0f7a4_7 : decode cJ2_newBytesLength_0f7a4 7 = .ok (.dup, 1) := by decide +kernel
theorem dJ2_newBytesLength_0f7a4_8 : decode cJ2_newBytesLength_0f7a4 8 = .ok (.invokespecial 19, 3) := by decide +kernel
theorem dJ2_newBytesLength_0f7a4_11 : decode cJ2_newBytesLength_0f7a4 11 = .ok (.athrow, 1) := by decide +kernel
theorem dJ2_newBytesLength_0f7a4_12 : decode cJ2_newBytesLength_0f7a4 12 = .ok (.iload_n 0, 1) := by decide +kernel
theorem dJ2_newBytesLength_0f7a4_13 : decode cJ2_newBytesLength_0f7a4 13 = .ok (.ldc 20, 2) := by decide +kernel
theorem dJ2_newBytesLength_0f7a4_15 : decode cJ2_newBytesLength_0f7a4 15 = .ok (.if_icmp .lt 40, 3) := by decide +kernel
theorem dJ2_newBytesLength_0f7a4_18 : decode cJ2_newBytesLength_0f7a4 18 = .ok (.new 21, 3) := by decide +kernel
theorem dJ2_newBytesLength_0f7a4_21 : decode cJ2_newBytesLength_0f7a4 21 = .ok (.dup, 1) := by decide +kernel
theorem dJ2_newBytesLength_0f7a4_22 : decode cJ2_newBytesLength_0f7a4 22 = .ok (.new 23, 3) := by decide +kernel
theorem dJ2_newBytesLength_0f7a4_25 : decode cJ2_newBytesLength_0f7a4 25 = .ok (.dup, 1) := by decide +kernel
theorem dJ2_newBytesLength_0f7a4_26 : decode cJ2_newBytesLength_0f7a4 26 = .ok (.invokespecial 25, 3) := by decide +kernel
theorem dJ2_newBytesLength_0f7a4_29 : decode cJ2_newBytesLength_0f7a4 29 = .ok (.ldc 26, 2) := by decide +kernel
theorem dJ2_newBytesLength_0f7a4_31 : decode cJ2_newBytesLength_0f7a4 31 = .ok (.invokevirtual 28, 3) := by decide +kernel
theorem dJ2_newBytesLength_0f7a4_34 : decode cJ2_newBytesLength_0f7a4 34 = .ok (.iload_n 0, 1) := by decide +kernel
theorem dJ2_newBytesLength_0f7a4_35 : decode cJ2_newBytesLength_0f7a4 35 = .ok (.invokevirtual 32, 3) := by decide +kernel
theorem dJ2_newBytesLength_0f7a4_38 : decode cJ2_newBytesLength_0f7a4 38 = .ok (.ldc 35, 2) := by decide +kernel
theorem dJ2_newBytesLength_0f7a4_40 : decode cJ2_newBytesLength_0f7a4 40 = .ok (.invokevirtual 28, 3) := by decide +kernel
theorem dJ2_newBytesLength_0f7a4_43 : decode cJ2_newBytesLength_0f7a4 43 = .ok (.ldc 20, 2) := by decide +kernel
theorem dJ2_newBytesLength_0f7a4_45 : decode cJ2_newBytesLength_0f7a4 45 = .ok (.invokevirtual 32, 3) := by decide +kernel
theorem dJ2_newBytesLength_0f7a4_48 : decode cJ2_newBytesLength_0f7a4 48 = .ok (.invokevirtual 37, 3) := by decide +kernel
theorem dJ2_newBytesLength_0f7a4_51 : decode cJ2_newBytesLength_0f7a4 51 = .ok (.invokespecial 41, 3) := by decide +kernel
theorem dJ2_newBytesLength_0f7a4_54 : decode cJ2_newBytesLength_0f7a4 54 = .ok (.athrow, 1) := by decide +kernel
theorem dJ2_newBytesLength_0f7a4_55 : decode cJ2_newBytesLength_0f7a4 55 = .ok (.iload_n 0, 1) := by decide +kernel
theorem dJ2_newBytesLength_0f7a4_56 : decode cJ2_newBytesLength_0f7a4 56 = .ok (.iconst 1, 1) := by decide +kernel
theorem dJ2_newBytesLength_0f7a4_57 : decode cJ2_newBytesLength_0f7a4 57 = .ok (.ishl, 1) := by decide +kernel
theorem dJ2_newBytesLength_0f7a4_58 : decode cJ2_newBytesLength_0f7a4 58 = .ok (.ireturn, 1) := by decide +kernel
theorem dJ2_putChar_b72d1_0 : decode cJ2_putChar_b72d1 0 = .ok (.getstatic 44, 3) := by decide +kernel
theorem dJ2_putChar_b72d1_3 : decode cJ2_putChar_b72d1 3 = .ok (.ifCond .ne 25, 3) := by decide +kernel
theorem dJ2_putChar_b72d1_6 : decode cJ2_putChar_b72d1 6 = .ok (.iload_n 1, 1) := by decide +kernel
theorem dJ2_putChar_b72d1_7 : decode cJ2_putChar_b72d1 7 = .ok (.ifCond .lt 11, 3) := by decide +kernel
theorem dJ2_putChar_b72d1_10 : decode cJ2_putChar_b72d1 10 = .ok (.iload_n 1, 1) := by decide +kernel
theorem dJ2_putChar_b72d1_11 : decode cJ2_putChar_b72d1 11 = .ok (.aload_n 0, 1) := by decide +kernel
theorem dJ2_putChar_b72d1_12 : decode cJ2_putChar_b72d1 12 = .ok (.invokestatic 48, 3) := by decide +kernel
theorem dJ2_putChar_b72d1_15 : decode cJ2_putChar_b72d1 15 = .ok (.if_icmp .lt 13, 3) := by decide +kernel
theorem dJ2_putChar_b72d1_18 : decode cJ2_putChar_b72d1 18 = .ok (.new 52, 3) := by decide +kernel
theorem dJ2_putChar_b72d1_21 : decode cJ2_putChar_b72d1 21 = .ok (.dup, 1) := by decide +kernel
theorem dJ2_putChar_b72d1_22 : decode cJ2_putChar_b72d1 22 = .ok (.ldc 54, 2) := by decide +kernel
theorem dJ2_putChar_b72d1_24 : decode cJ2_putChar_b72d1 24 = .ok (.invokespecial 56, 3) := by decide +kernel
theorem dJ2_putChar_b72d1_27 : decode cJ2_putChar_b72d1 27 = .ok (.athrow, 1) := by decide +kernel
theorem dJ2_putChar_b72d1_28 : decode cJ2_putChar_b72d1 28 = .ok (.iload_n 1, 1) := by decide +kernel
theorem dJ2_putChar_b72d1_29 : decode cJ2_putChar_b72d1 29 = .ok (.iconst 1, 1) := by decide +kernel
theorem dJ2_putChar_b72d1_30 : decode cJ2_putChar_b72d1 30 = .ok (.ishl, 1) := by decide +kernel
theorem dJ2_putChar_b72d1_31 : decode cJ2_putChar_b72d1 31 = .ok (.istore_n 1, 1) := by decide +kernel
theorem dJ2_putChar_b72d1_32 : decode cJ2_putChar_b72d1 32 = .ok (.aload_n 0, 1) := by decide +kernel
theorem dJ2_putChar_b72d1_33 : decode cJ2_putChar_b72d1 33 = .ok (.iload_n 1, 1) := by decide +kernel
theorem dJ2_putChar_b72d1_34 : decode cJ2_putChar_b72d1 34 = .ok (.iinc 1 1, 3) := by decide +kernel
theorem dJ2_putChar_b72d1_37 : decode cJ2_putChar_b72d1 37 = .ok (.iload_n 2, 1) := by decide +kernel
theorem dJ2_putChar_b72d1_38 : decode cJ2_putChar_b72d1 38 = .ok (.getstatic 59, 3) := by decide +kernel
theorem dJ2_putChar_b72d1_41 : decode cJ2_putChar_b72d1 41 = .ok (.ishr, 1) := by decide +kernel
theorem dJ2_putChar_b72d1_42 : decode cJ2_putChar_b72d1 42 = .ok (.i2b, 1) := by decide +kernel
theorem dJ2_putChar_b72d1_43 : decode cJ2_putChar_b72d1 43 = .ok (.bastore, 1) := by decide +kernel
theorem dJ2_putChar_b72d1_44 : decode cJ2_putChar_b72d1 44 = .ok (.aload_n 0, 1) := by decide +kernel
theorem dJ2_putChar_b72d1_45 : decode cJ2_putChar_b72d1 45 = .ok (.iload_n 1, 1) := by decide +kernel
theorem dJ2_putChar_b72d1_46 : decode cJ2_putChar_b72d1 46 = .ok (.iload_n 2, 1) := by decide +kernel
theorem dJ2_putChar_b72d1_47 : decode cJ2_putChar_b72d1 47 = .ok (.getstatic 63, 3) := by decide +kernel
theorem dJ2_putChar_b72d1_50 : decode cJ2_putChar_b72d1 50 = .ok (.ishr, 1) := by decide +kernel
theorem dJ2_putChar_b72d1_51 : decode cJ2_putChar_b72d1 51 = .ok (.i2b, 1) := by decide +kernel
theorem dJ2_putChar_b72d1_52 : decode cJ2_putChar_b72d1 52 = .ok (.bastore, 1) := by decide +kernel
theorem dJ2_putChar_b72d1_53 : decode cJ2_putChar_b72d1 53 = .ok (.return_, 1) := by decide +kernel
theorem dJ2_getChar_3b067_0 : decode cJ2_getChar_3b067 0 = .ok (.getstatic 44, 3) := by decide +kernel
theorem dJ2_getChar_3b067_3 : decode cJ2_getChar_3b067 3 = .ok (.ifCond .ne 25, 3) := by decide +kernel
theorem dJ2_getChar_3b067_6 : decode cJ2_getChar_3b067 6 = .ok (.iload_n 1, 1) := by decide +kernel
theorem dJ2_getChar_3b067_7 : decode cJ2_getChar_3b067 7 = .ok (.ifCond .lt 11, 3) := by decide +kernel
theorem dJ2_getChar_3b067_10 : decode cJ2_getChar_3b067 10 = .ok (.iload_n 1, 1) := by decide +kernel
theorem dJ2_getChar_3b067_11 : decode cJ2_getChar_3b067 11 = .ok (.aload_n 0, 1) := by decide +kernel
theorem dJ2_getChar_3b067_12 : decode cJ2_getChar_3b067 12 = .ok (.invokestatic 48, 3) := by decide +kernel
theorem dJ2_getChar_3b067_15 : decode cJ2_getChar_3b067 15 = .ok (.if_icmp .lt 13, 3) := by decide +kernel
theorem dJ2_getChar_3b067_18 : decode cJ2_getChar_3b067 18 = .ok (.new 52, 3) := by decide +kernel
theorem dJ2_getChar_3b067_21 : decode cJ2_getChar_3b067 21 = .ok (.dup, 1) := by decide +kernel
theorem dJ2_getChar_3b067_22 : decode cJ2_getChar_3b067 22 = .ok (.ldc 54, 2) := by decide +kernel
theorem dJ2_getChar_3b067_24 : decode cJ2_getChar_3b067 24 = .ok (.invokespecial 56, 3) := by decide +kernel
theorem dJ2_getChar_3b067_27 : decode cJ2_getChar_3b067 27 = .ok (.athrow, 1) := by decide +kernel
theorem dJ2_getChar_3b067_28 : decode cJ2_getChar_3b067 28 = .ok (.iload_n 1, 1) := by decide +kernel
theorem dJ2_getChar_3b067_29 : decode cJ2_getChar_3b067 29 = .ok (.iconst 1, 1) := by decide +kernel
theorem dJ2_getChar_3b067_30 : decode cJ2_getChar_3b067 30 = .ok (.ishl, 1) := by decide +kernel
theorem dJ2_getChar_3b067_31 : decode cJ2_getChar_3b067 31 = .ok (.istore_n 1, 1) := by decide +kernel
theorem dJ2_getChar_3b067_32 : decode cJ2_getChar_3b067 32 = .ok (.aload_n 0, 1) := by decide +kernel
theorem dJ2_getChar_3b067_33 : decode cJ2_getChar_3b067 33 = .ok (.iload_n 1, 1) := by decide +kernel
theorem dJ2_getChar_3b067_34 : decode cJ2_getChar_3b067 34 = .ok (.iinc 1 1, 3) := by decide +kernel
theorem dJ2_getChar_3b067_37 : decode cJ2_getChar_3b067 37 = .ok (.baload, 1) := by decide +kernel
theorem dJ2_getChar_3b067_38 : decode cJ2_getChar_3b067 38 = .ok (.sipush 255, 3) := by decide +kernel
theorem dJ2_getChar_3b067_41 : decode cJ2_getChar_3b067 41 = .ok (.iand, 1) := by decide +kernel
theorem dJ2_getChar_3b067_42 : decode cJ2_getChar_3b067 42 = .ok (.getstatic 59, 3) := by decide +kernel
theorem dJ2_getChar_3b067_45 : decode cJ2_getChar_3b067 45 = .ok (.ishl, 1) := by decide +kernel
theorem dJ2_getChar_3b067_46 : decode cJ2_getChar_3b067 46 = .ok (.aload_n 0, 1) := by decide +kernel
theorem dJ2_getChar_3b067_47 : decode cJ2_getChar_3b067 47 = .ok (.iload_n 1, 1) := by decide +kernel
theorem dJ2_getChar_3b067_48 : decode cJ2_getChar_3b067 48 = .ok (.baload, 1) := by decide +kernel
theorem dJ2_getChar_3b067_49 : decode cJ2_getChar_3b067 49 = .ok (.sipush 255, 3) := by decide +kernel
theorem dJ2_getChar_3b067_52 : decode cJ2_getChar_3b067 52 = .ok (.iand, 1) := by decide +kernel
theorem dJ2_getChar_3b067_53 : decode cJ2_getChar_3b067 53 = .ok (.getstatic 63, 3) := by decide +kernel
theorem dJ2_getChar_3b067_56 : decode cJ2_getChar_3b067 56 = .ok (.ishl, 1) := by decide +kernel
theorem dJ2_getChar_3b067_57 : decode cJ2_getChar_3b067 57 = .ok (.ior, 1) := by decide +kernel
theorem dJ2_getChar_3b067_58 : decode cJ2_getChar_3b067 58 = .ok (.i2c, 1) := by decide +kernel
theorem dJ2_getChar_3b067_59 : decode cJ2_getChar_3b067 59 = .ok (.ireturn, 1) := by decide +kernel
theorem dJ2_length_9d52b_0 : decode cJ2_length_9d52b 0 = .ok (.aload_n 0, 1) := by decide +kernel
theorem dJ2_length_9d52b_1 : decode cJ2_length_9d52b 1 = .ok (.arraylength, 1) := by decide +kernel
theorem dJ2_length_9d52b_2 : decode cJ2_length_9d52b 2 = .ok (.iconst 1, 1) := by decide +kernel
theorem dJ2_length_9d52b_3 : decode cJ2_length_9d52b 3 = .ok (.ishr, 1) := by decide +kernel
theorem dJ2_length_9d52b_4 : decode cJ2_length_9d52b 4 = .ok (.ireturn, 1) := by decide +kernel
theorem dJ2_fillNull_b72d1_0 : decode cJ2_fillNull_b72d1 0 = .ok (.aload_n 0, 1) := by decide +kernel
theorem dJ2_fillNull_b72d1_1 : decode cJ2_fillNull_b72d1 1 = .ok (.iload_n 1, 1) := by decide +kernel
theorem dJ2_fillNull_b72d1_2 : decode cJ2_fillNull_b72d1 2 = .ok (.iconst 1, 1) := by decide +kernel
theorem dJ2_fillNull_b72d1_3 : decode cJ2_fillNull_b72d1 3 = .ok (.ishl, 1) := by decide +kernel
theorem dJ2_fillNull_b72d1_4 : decode cJ2_fillNull_b72d1 4 = .ok (.iload_n 2, 1) := by decide +kernel
theorem dJ2_fillNull_b72d1_5 : decode cJ2_fillNull_b72d1 5 = .ok (.iconst 1, 1) := by decide +kernel
theorem dJ2_fillNull_b72d1_6 : decode cJ2_fillNull_b72d1 6 = .ok (.ishl, 1) := by decide +kernel
theorem dJ2_fillNull_b72d1_7 : decode cJ2_fillNull_b72d1 7 = .ok (.iconst 0, 1) := by decide +kernel
theorem dJ2_fillNull_b72d1_8 : decode cJ2_fillNull_b72d1 8 = .ok (.invokestatic 380, 3) := by decide +kernel
theorem dJ2_fillNull_b72d1_11 : decode cJ2_fillNull_b72d1 11 = .ok (.return_, 1) := by decide +kernel
theorem dJ2_putCharSB_b72d1_0 : decode cJ2_putCharSB_b72d1 0 = .ok (.iload_n 1, 1) := by decide +kernel
theorem dJ2_putCharSB_b72d1_1 : decode cJ2_putCharSB_b72d1 1 = .ok (.aload_n 0, 1) := by decide +kernel
theorem dJ2_putCharSB_b72d1_2 : decode cJ2_putCharSB_b72d1 2 = .ok (.invokestatic 67, 3) := by decide +kernel
theorem dJ2_putCharSB_b72d1_5 : decode cJ2_putCharSB_b72d1 5 = .ok (.aload_n 0, 1) := by decide +kernel
theorem dJ2_putCharSB_b72d1_6 : decode cJ2_putCharSB_b72d1 6 = .ok (.iload_n 1, 1) := by decide +kernel
theorem dJ2_putCharSB_b72d1_7 : decode cJ2_putCharSB_b72d1 7 = .ok (.iload_n 2, 1) := by decide +kernel
theorem dJ2_putCharSB_b72d1_8 : decode cJ2_putCharSB_b72d1 8 = .ok (.invokestatic 111, 3) := by decide +kernel
theorem dJ2_putCharSB_b72d1_11 : decode cJ2_putCharSB_b72d1 11 = .ok (.return_, 1) := by decide +kernel
theorem dJ2_getChars_46870_0 : decode cJ2_getChars_46870 0 = .ok (.iload_n 1, 1) := by decide +kernel
theorem dJ2_getChars_46870_1 : decode cJ2_getChars_46870 1 = .ok (.iload_n 2, 1) := by decide +kernel
theorem dJ2_getChars_46870_2 : decode cJ2_getChars_46870 2 = .ok (.aload_n 3, 1) := by decide +kernel
theorem dJ2_getChars_46870_3 : decode cJ2_getChars_46870 3 = .ok (.invokestatic 96, 3) := by decide +kernel
theorem dJ2_getChars_46870_6 : decode cJ2_getChars_46870 6 = .ok (.iload_n 0, 1) := by decide +kernel
theorem dJ2_getChars_46870_7 : decode cJ2_getChars_46870 7 = .ok (.iload_n 2, 1) := by decide +kernel
theorem dJ2_getChars_46870_8 : decode cJ2_getChars_46870 8 = .ok (.aload_n 3, 1) := by decide +kernel
theorem dJ2_getChars_46870_9 : decode cJ2_getChars_46870 9 = .ok (.invokestatic 393, 3) := by decide +kernel
theorem dJ2_getChars_46870_12 : decode cJ2_getChars_46870 12 = .ok (.istore 4, 2) := by decide +kernel
theorem dJ2_getChars_46870_14 : decode cJ2_getChars_46870 14 = .ok (.getstatic 44, 3) := by decide +kernel
theorem dJ2_getChars_46870_17 : decode cJ2_getChars_46870 17 = .ok (.ifCond .ne 17, 3) := by decide +kernel
theorem dJ2_getChars_46870_20 : decode cJ2_getChars_46870 20 = .ok (.iload_n 1, 1) := by decide +kernel
theorem dJ2_getChars_46870_21 : decode cJ2_getChars_46870 21 = .ok (.iload 4, 2) := by decide +kernel
theorem dJ2_getChars_46870_23 : decode cJ2_getChars_46870 23 = .ok (.if_icmp .eq 11, 3) := by decide +kernel
theorem dJ2_getChars_46870_26 : decode cJ2_getChars_46870 26 = .ok (.new 52, 3) := by decide +kernel
theorem dJ2_getChars_46870_29 : decode cJ2_getChars_46870 29 = .ok (.dup, 1) := by decide +kernel
theorem dJ2_getChars_46870_30 : decode cJ2_getChars_46870 30 = .ok (.invokespecial 66, 3) := by decide +kernel
theorem dJ2_getChars_46870_33 : decode cJ2_getChars_46870 33 = .ok (.athrow, 1) := by decide +kernel
theorem dJ2_getChars_46870_34 : decode cJ2_getChars_46870 34 = .ok (.iload 4, 2) := by decide +kernel
theorem dJ2_getChars_46870_36 : decode cJ2_getChars_46870 36 = .ok (.ireturn, 1) := by decide +kernel
theorem dJ2_inflate_0e8fd_0 : decode cJ2_inflate_0e8fd 0 = .ok (.iload_n 3, 1) := by decide +kernel
theorem dJ2_inflate_0e8fd_1 : decode cJ2_inflate_0e8fd 1 = .ok (.iload 4, 2) := by decide +kernel
theorem dJ2_inflate_0e8fd_3 : decode cJ2_inflate_0e8fd 3 = .ok (.aload_n 2, 1) := by decide +kernel
theorem dJ2_inflate_0e8fd_4 : decode cJ2_inflate_0e8fd 4 = .ok (.invokestatic 173, 3) := by decide +kernel
theorem dJ2_inflate_0e8fd_7 : decode cJ2_inflate_0e8fd 7 = .ok (.iconst 0, 1) := by decide +kernel
theorem dJ2_inflate_0e8fd_8 : decode cJ2_inflate_0e8fd 8 = .ok (.istore 5, 2) := by decide +kernel
theorem dJ2_inflate_0e8fd_10 : decode cJ2_inflate_0e8fd 10 = .ok (.iload 5, 2) := by decide +kernel
theorem dJ2_inflate_0e8fd_12 : decode cJ2_inflate_0e8fd 12 = .ok (.iload 4, 2) := by decide +kernel
theorem dJ2_inflate_0e8fd_14 : decode cJ2_inflate_0e8fd 14 = .ok (.if_icmp .ge 27, 3) := by decide +kernel
theorem dJ2_inflate_0e8fd_17 : decode cJ2_inflate_0e8fd 17 = .ok (.aload_n 2, 1) := by decide +kernel
theorem dJ2_inflate_0e8fd_18 : decode cJ2_inflate_0e8fd 18 = .ok (.iload_n 3, 1) := by decide +kernel
theorem dJ2_inflate_0e8fd_19 : decode cJ2_inflate_0e8fd 19 = .ok (.iinc 3 1, 3) := by decide +kernel
theorem dJ2_inflate_0e8fd_22 : decode cJ2_inflate_0e8fd 22 = .ok (.aload_n 0, 1) := by decide +kernel
theorem dJ2_inflate_0e8fd_23 : decode cJ2_inflate_0e8fd 23 = .ok (.iload_n 1, 1) := by decide +kernel
theorem dJ2_inflate_0e8fd_24 : decode cJ2_inflate_0e8fd 24 = .ok (.iinc 1 1, 3) := by decide +kernel
theorem dJ2_inflate_0e8fd_27 : decode cJ2_inflate_0e8fd 27 = .ok (.baload, 1) := by decide +kernel
theorem dJ2_inflate_0e8fd_28 : decode cJ2_inflate_0e8fd 28 = .ok (.sipush 255, 3) := by decide +kernel
theorem dJ2_inflate_0e8fd_31 : decode cJ2_inflate_0e8fd 31 = .ok (.iand, 1) := by decide +kernel
theorem dJ2_inflate_0e8fd_32 : decode cJ2_inflate_0e8fd 32 = .ok (.invokestatic 111, 3) := by decide +kernel
theorem dJ2_inflate_0e8fd_35 : decode cJ2_inflate_0e8fd 35 = .ok (.iinc 5 1, 3) := by decide +kernel
theorem dJ2_inflate_0e8fd_38 : decode cJ2_inflate_0e8fd 38 = .ok (.goto (-28), 3) := by decide +kernel
theorem dJ2_inflate_0e8fd_41 : decode cJ2_inflate_0e8fd 41 = .ok (.return_, 1) := by decide +kernel
theorem dJ2_getChars_ba4f3_0 : decode cJ2_getChars_ba4f3 0 = .ok (.iload_n 1, 1) := by decide +kernel
theorem dJ2_getChars_ba4f3_1 : decode cJ2_getChars_ba4f3 1 = .ok (.istore 5, 2) := by decide +kernel
theorem dJ2_getChars_ba4f3_3 : decode cJ2_getChars_ba4f3 3 = .ok (.iload_n 0, 1) := by decide +kernel
theorem dJ2_getChars_ba4f3_4 : decode cJ2_getChars_ba4f3 4 = .ok (.ifCond .ge 7, 3) := by decide +kernel
theorem dJ2_getChars_ba4f3_7 : decode cJ2_getChars_ba4f3 7 = .ok (.iconst 1, 1) := by decide +kernel
theorem dJ2_getChars_ba4f3_8 : decode cJ2_getChars_ba4f3 8 = .ok (.goto 4, 3) := by decide +kernel
theorem dJ2_getChars_ba4f3_11 : decode cJ2_getChars_ba4f3 11 = .ok (.iconst 0, 1) := by decide +kernel
theorem dJ2_getChars_ba4f3_12 : decode cJ2_getChars_ba4f3 12 = .ok (.istore 6, 2) := by decide +kernel
theorem dJ2_getChars_ba4f3_14 : decode cJ2_getChars_ba4f3 14 = .ok (.iload 6, 2) := by decide +kernel
theorem dJ2_getChars_ba4f3_16 : decode cJ2_getChars_ba4f3 16 = .ok (.ifCond .ne 6, 3) := by decide +kernel
theorem dJ2_getChars_ba4f3_19 : decode cJ2_getChars_ba4f3 19 = .ok (.iload_n 0, 1) := by decide +kernel
theorem dJ2_getChars_ba4f3_20 : decode cJ2_getChars_ba4f3 20 = .ok (.ineg, 1) := by decide +kernel
theorem dJ2_getChars_ba4f3_21 : decode cJ2_getChars_ba4f3 21 = .ok (.istore_n 0, 1) := by decide +kernel
theorem dJ2_getChars_ba4f3_22 : decode cJ2_getChars_ba4f3 22 = .ok (.iload_n 0, 1) := by decide +kernel
theorem dJ2_getChars_ba4f3_23 : decode cJ2_getChars_ba4f3 23 = .ok (.bipush (-100), 2) := by decide +kernel
theorem dJ2_getChars_ba4f3_25 : decode cJ2_getChars_ba4f3 25 = .ok (.if_icmp .gt 51, 3) := by decide +kernel
theorem dJ2_getChars_ba4f3_28 : decode cJ2_getChars_ba4f3 28 = .ok (.iload_n 0, 1) := by decide +kernel
theorem dJ2_getChars_ba4f3_29 : decode cJ2_getChars_ba4f3 29 = .ok (.bipush 100, 2) := by decide +kernel
theorem dJ2_getChars_ba4f3_31 : decode cJ2_getChars_ba4f3 31 = .ok (.idiv, 1) := by decide +kernel
theorem dJ2_getChars_ba4f3_32 : decode cJ2_getChars_ba4f3 32 = .ok (.istore_n 3, 1) := by decide +kernel
theorem dJ2_getChars_ba4f3_33 : decode cJ2_getChars_ba4f3 33 = .ok (.iload_n 3, 1) := by decide +kernel
theorem dJ2_getChars_ba4f3_34 : decode cJ2_getChars_ba4f3 34 = .ok (.bipush 100, 2) := by decide +kernel
theorem dJ2_getChars_ba4f3_36 : decode cJ2_getChars_ba4f3 36 = .ok (.imul, 1) := by decide +kernel
theorem dJ2_getChars_ba4f3_37 : decode cJ2_getChars_ba4f3 37 = .ok (.iload_n 0, 1) := by decide +kernel
theorem dJ2_getChars_ba4f3_38 : decode cJ2_getChars_ba4f3 38 = .ok (.isub, 1) := by decide +kernel
theorem dJ2_getChars_ba4f3_39 : decode cJ2_getChars_ba4f3 39 = .ok (.istore 4, 2) := by decide +kernel
theorem dJ2_getChars_ba4f3_41 : decode cJ2_getChars_ba4f3 41 = .ok (.iload_n 3, 1) := by decide +kernel
theorem dJ2_getChars_ba4f3_42 : decode cJ2_getChars_ba4f3 42 = .ok (.istore_n 0, 1) := by decide +kernel
theorem dJ2_getChars_ba4f3_43 : decode cJ2_getChars_ba4f3 43 = .ok (.aload_n 2, 1) := by decide +kernel
theorem dJ2_getChars_ba4f3_44 : decode cJ2_getChars_ba4f3 44 = .ok (.iinc 5 (-1), 3) := by decide +kernel
theorem dJ2_getChars_ba4f3_47 : decode cJ2_getChars_ba4f3 47 = .ok (.iload 5, 2) := by decide +kernel
theorem dJ2_getChars_ba4f3_49 : decode cJ2_getChars_ba4f3 49 = .ok (.getstatic 403, 3) := by decide +kernel
theorem dJ2_getChars_ba4f3_52 : decode cJ2_getChars_ba4f3 52 = .ok (.iload 4, 2) := by decide +kernel
theorem dJ2_getChars_ba4f3_54 : decode cJ2_getChars_ba4f3 54 = .ok (.baload, 1) := by decide +kernel
theorem dJ2_getChars_ba4f3_55 : decode cJ2_getChars_ba4f3 55 = .ok (.invokestatic 111, 3) := by decide +kernel
theorem dJ2_getChars_ba4f3_58 : decode cJ2_getChars_ba4f3 58 = .ok (.aload_n 2, 1) := by decide +kernel
theorem dJ2_getChars_ba4f3_59 : decode cJ2_getChars_ba4f3 59 = .ok (.iinc 5 (-1), 3) := by decide +kernel
theorem dJ2_getChars_ba4f3_62 : decode cJ2_getChars_ba4f3 62 = .ok (.iload 5, 2) := by decide +kernel
theorem dJ2_getChars_ba4f3_64 : decode cJ2_getChars_ba4f3 64 = .ok (.getstatic 407, 3) := by decide +kernel
theorem dJ2_getChars_ba4f3_67 : decode cJ2_getChars_ba4f3 67 = .ok (.iload 4, 2) := by decide +kernel
theorem dJ2_getChars_ba4f3_69 : decode cJ2_getChars_ba4f3 69 = .ok (.baload, 1) := by decide +kernel
theorem dJ2_getChars_ba4f3_70 : decode cJ2_getChars_ba4f3 70 = .ok (.invokestatic 111, 3) := by decide +kernel
theorem dJ2_getChars_ba4f3_73 : decode cJ2_getChars_ba4f3 73 = .ok (.goto (-51), 3) := by decide +kernel
theorem dJ2_getChars_ba4f3_76 : decode cJ2_getChars_ba4f3 76 = .ok (.aload_n 2, 1) := by decide +kernel
theorem dJ2_getChars_ba4f3_77 : decode cJ2_getChars_ba4f3 77 = .ok (.iinc 5 (-1), 3) := by decide +kernel
theorem dJ2_getChars_ba4f3_80 : decode cJ2_getChars_ba4f3 80 = .ok (.iload 5, 2) := by decide +kernel
theorem dJ2_getChars_ba4f3_82 : decode cJ2_getChars_ba4f3 82 = .ok (.getstatic 403, 3) := by decide +kernel
theorem dJ2_getChars_ba4f3_85 : decode cJ2_getChars_ba4f3 85 = .ok (.iload_n 0, 1) := by decide +kernel
theorem dJ2_getChars_ba4f3_86 : decode cJ2_getChars_ba4f3 86 = .ok (.ineg, 1) := by decide +kernel
theorem dJ2_getChars_ba4f3_87 : decode cJ2_getChars_ba4f3 87 = .ok (.baload, 1) := by decide +kernel
theorem dJ2_getChars_ba4f3_88 : decode cJ2_getChars_ba4f3 88 = .ok (.invokestatic 111, 3) := by decide +kernel
theorem dJ2_getChars_ba4f3_91 : decode cJ2_getChars_ba4f3 91 = .ok (.iload_n 0, 1) := by decide +kernel
theorem dJ2_getChars_ba4f3_92 : decode cJ2_getChars_ba4f3 92 = .ok (.bipush (-9), 2) := by decide +kernel
theorem dJ2_getChars_ba4f3_94 : decode cJ2_getChars_ba4f3 94 = .ok (.if_icmp .ge 18, 3) := by decide +kernel
theorem dJ2_getChars_ba4f3_97 : decode cJ2_getChars_ba4f3 97 = .ok (.aload_n 2, 1) := by decide +kernel
theorem dJ2_getChars_ba4f3_98 : decode cJ2_getChars_ba4f3 98 = .ok (.iinc 5 (-1), 3) := by decide +kernel
theorem dJ2_getChars_ba4f3_101 : decode cJ2_getChars_ba4f3 101 = .ok (.iload 5, 2) := by decide +kernel
theorem dJ2_getChars_ba4f3_103 : decode cJ2_getChars_ba4f3 103 = .ok (.getstatic 407, 3) := by decide +kernel
theorem dJ2_getChars_ba4f3_106 : decode cJ2_getChars_ba4f3 106 = .ok (.iload_n 0, 1) := by decide +kernel
theorem dJ2_getChars_ba4f3_107 : decode cJ2_getChars_ba4f3 107 = .ok (.ineg, 1) := by decide +kernel
theorem dJ2_getChars_ba4f3_108 : decode cJ2_getChars_ba4f3 108 = .ok (.baload, 1) := by decide +kernel
theorem dJ2_getChars_ba4f3_109 : decode cJ2_getChars_ba4f3 109 = .ok (.invokestatic 111, 3) := by decide +kernel
theorem dJ2_getChars_ba4f3_112 : decode cJ2_getChars_ba4f3 112 = .ok (.iload 6, 2) := by decide +kernel
theorem dJ2_getChars_ba4f3_114 : decode cJ2_getChars_ba4f3 114 = .ok (.ifCond .eq 14, 3) := by decide +kernel
theorem dJ2_getChars_ba4f3_117 : decode cJ2_getChars_ba4f3 117 = .ok (.aload_n 2, 1) := by decide +kernel
theorem dJ2_getChars_ba4f3_118 : decode cJ2_getChars_ba4f3 118 = .ok (.iinc 5 (-1), 3) := by decide +kernel
theorem dJ2_getChars_ba4f3_121 : decode cJ2_getChars_ba4f3 121 = .ok (.iload 5, 2) := by decide +kernel
theorem dJ2_getChars_ba4f3_123 : decode cJ2_getChars_ba4f3 123 = .ok (.bipush 45, 2) := by decide +kernel
theorem dJ2_getChars_ba4f3_125 : decode cJ2_getChars_ba4f3 125 = .ok (.invokestatic 111, 3) := by decide +kernel
theorem dJ2_getChars_ba4f3_128 : decode cJ2_getChars_ba4f3 128 = .ok (.iload 5, 2) := by decide +kernel
theorem dJ2_getChars_ba4f3_130 : decode cJ2_getChars_ba4f3 130 = .ok (.ireturn, 1) := by decide +kernel
theorem dJ2_checkIndex_2214a_0 : decode cJ2_checkIndex_2214a 0 = .ok (.iload_n 0, 1) := by decide +kernel
theorem dJ2_checkIndex_2214a_1 : decode cJ2_checkIndex_2214a 1 = .ok (.aload_n 1, 1) := by decide +kernel
theorem dJ2_checkIndex_2214a_2 : decode cJ2_checkIndex_2214a 2 = .ok (.invokestatic 48, 3) := by decide +kernel
theorem dJ2_checkIndex_2214a_5 : decode cJ2_checkIndex_2214a 5 = .ok (.invokestatic 414, 3) := by decide +kernel
theorem dJ2_checkIndex_2214a_8 : decode cJ2_checkIndex_2214a 8 = .ok (.return_, 1) := by decide +kernel
theorem dJ2_checkBoundsBeginEnd_d044e_0 : decode cJ2_checkBoundsBeginEnd_d044e 0 = .ok (.iload_n 0, 1) := by decide +kernel
theorem dJ2_checkBoundsBeginEnd_d044e_1 : decode cJ2_checkBoundsBeginEnd_d044e 1 = .ok (.iload_n 1, 1) := by decide +kernel
theorem dJ2_checkBoundsBeginEnd_d044e_2 : decode cJ2_checkBoundsBeginEnd_d044e 2 = .ok (.aload_n 2, 1) := by decide +kernel
theorem dJ2_checkBoundsBeginEnd_d044e_3 : decode cJ2_checkBoundsBeginEnd_d044e 3 = .ok (.invokestatic 48, 3) := by decide +kernel
theorem dJ2_checkBoundsBeginEnd_d044e_6 : decode cJ2_checkBoundsBeginEnd_d044e 6 = .ok (.invokestatic 241, 3) := by decide +kernel
theorem dJ2_checkBoundsBeginEnd_d044e_9 : decode cJ2_checkBoundsBeginEnd_d044e 9 = .ok (.return_, 1) := by decide +kernel
theorem dJ2_checkBoundsOffCount_d044e_0 : decode cJ2_checkBoundsOffCount_d044e 0 = .ok (.iload_n 0, 1) := by decide +kernel
theorem dJ2_checkBoundsOffCount_d044e_1 : decode cJ2_checkBoundsOffCount_d044e 1 = .ok (.iload_n 1, 1) := by decide +kernel
theorem dJ2_checkBoundsOffCount_d044e_2 : decode cJ2_checkBoundsOffCount_d044e 2 = .ok (.aload_n 2, 1) := by decide +kernel
theorem dJ2_checkBoundsOffCount_d044e_3 : decode cJ2_checkBoundsOffCount_d044e 3 = .ok (.invokestatic 48, 3) := by decide +kernel
theorem dJ2_checkBoundsOffCount_d044e_6 : decode cJ2_checkBoundsOffCount_d044e 6 = .ok (.invokestatic 419, 3) := by decide +kernel
theorem dJ2_checkBoundsOffCount_d044e_9 : decode cJ2_checkBoundsOffCount_d044e 9 = .ok (.pop, 1) := by decide +kernel
theorem dJ2_checkBoundsOffCount_d044e_10 : decode cJ2_checkBoundsOffCount_d044e 10 = .ok (.return_, 1) := by decide +kernel
theorem dJxa1e45_init_da8c8_0 : decode cJxa1e45_init_da8c8 0 = .ok (.aload_n 0, 1) := by decide +kernel
theorem dJxa1e45_init_da8c8_1 : decode cJxa1e45_init_da8c8 1 = .ok (.invokespecial 1, 3) := by decide +kernel
theorem dJxa1e45_init_da8c8_4 : decode cJxa1e45_init_da8c8 4 = .ok (.return_, 1) := by decide +kernel
theorem dJxc12de_init_da8c8_0 : decode cJxc12de_init_da8c8 0 = .ok (.aload_n 0, 1) := by decide +kernel
theorem dJxc12de_init_da8c8_1 : decode cJxc12de_init_da8c8 1 = .ok (.invokespecial 1, 3) := by decide +kernel
theorem dJxc12de_init_da8c8_4 : decode cJxc12de_init_da8c8 4 = .ok (.aload_n 0, 1) := by decide +kernel
theorem dJxc12de_init_da8c8_5 : decode cJxc12de_init_da8c8 5 = .ok (.iconst 0, 1) := by decide +kernel
theorem dJxc12de_init_da8c8_6 : decode cJxc12de_init_da8c8 6 = .ok (.putfield 7, 3) := by decide +kernel
theorem dJxc12de_init_da8c8_9 : decode cJxc12de_init_da8c8 9 = .ok (.return_, 1) := by decide +kernel
theorem dJx4a65c_init_da8c8_0 : decode cJx4a65c_init_da8c8 0 = .ok (.aload_n 0, 1) := by decide +kernel
theorem dJx4a65c_init_da8c8_1 : decode cJx4a65c_init_da8c8 1 = .ok (.invokespecial 1, 3) := by decide +kernel
theorem dJx4a65c_init_da8c8_4 : decode cJx4a65c_init_da8c8 4 = .ok (.aload_n 0, 1) := by decide +kernel
theorem dJx4a65c_init_da8c8_5 : decode cJx4a65c_init_da8c8 5 = .ok (.getstatic 39, 3) := by decide +kernel
theorem dJx4a65c_init_da8c8_8 : decode cJx4a65c_init_da8c8 8 = .ok (.putfield 9, 3) := by decide +kernel
theorem dJx4a65c_init_da8c8_11 : decode cJx4a65c_init_da8c8 11 = .ok (.return_, 1) := by decide +kernel
theorem dJx4a65c_grow_92f84_0 : decode cJx4a65c_grow_92f84 0 = .ok (.aload_n 0, 1) := by decide +kernel
theorem dJx4a65c_grow_92f84_1 : decode cJx4a65c_grow_92f84 1 = .ok (.getfield 9, 3) := by decide +kernel
theorem dJx4a65c_grow_92f84_4 : decode cJx4a65c_grow_92f84 4 = .ok (.arraylength, 1) := by decide +kernel
theorem dJx4a65c_grow_92f84_5 : decode cJx4a65c_grow_92f84 5 = .ok (.istore_n 2, 1) := by decide +kernel
theorem dJx4a65c_grow_92f84_6 : decode cJx4a65c_grow_92f84 6 = .ok (.iload_n 2, 1) := by decide +kernel
theorem dJx4a65c_grow_92f84_7 : decode cJx4a65c_grow_92f84 7 = .ok (.ifCond .gt 13, 3) := by decide +kernel
theorem dJx4a65c_grow_92f84_10 : decode cJx4a65c_grow_92f84 10 = .ok (.aload_n 0, 1) := by decide +kernel
theorem dJx4a65c_grow_92f84_11 : decode cJx4a65c_grow_92f84 11 = .ok (.getfield 9, 3) := by decide +kernel
theorem dJx4a65c_grow_92f84_14 : decode cJx4a65c_grow_92f84 14 = .ok (.getstatic 39, 3) := by decide +kernel
theorem dJx4a65c_grow_92f84_17 : decode cJx4a65c_grow_92f84 17 = .ok (.if_acmp .eq 28, 3) := by decide +kernel
theorem dJx4a65c_grow_92f84_20 : decode cJx4a65c_grow_92f84 20 = .ok (.iload_n 2, 1) := by decide +kernel
theorem dJx4a65c_grow_92f84_21 : decode cJx4a65c_grow_92f84 21 = .ok (.iload_n 1, 1) := by decide +kernel
theorem dJx4a65c_grow_92f84_22 : decode cJx4a65c_grow_92f84 22 = .ok (.iload_n 2, 1) := by decide +kernel
theorem dJx4a65c_grow_92f84_23 : decode cJx4a65c_grow_92f84 23 = .ok (.isub, 1) := by decide +kernel
theorem dJx4a65c_grow_92f84_24 : decode cJx4a65c_grow_92f84 24 = .ok (.iload_n 2, 1) := by decide +kernel
theorem dJx4a65c_grow_92f84_25 : decode cJx4a65c_grow_92f84 25 = .ok (.iconst 1, 1) := by decide +kernel
theorem dJx4a65c_grow_92f84_26 : decode cJx4a65c_grow_92f84 26 = .ok (.ishr, 1) := by decide +kernel
theorem dJx4a65c_grow_92f84_27 : decode cJx4a65c_grow_92f84 27 = .ok (.invokestatic 73, 3) := by decide +kernel
theorem dJx4a65c_grow_92f84_30 : decode cJx4a65c_grow_92f84 30 = .ok (.istore_n 3, 1) := by decide +kernel
theorem dJx4a65c_grow_92f84_31 : decode cJx4a65c_grow_92f84 31 = .ok (.aload_n 0, 1) := by decide +kernel
theorem dJx4a65c_grow_92f84_32 : decode cJx4a65c_grow_92f84 32 = .ok (.aload_n 0, 1) := by decide +kernel
theorem dJx4a65c_grow_92f84_33 : decode cJx4a65c_grow_92f84 33 = .ok (.getfield 9, 3) := by decide +kernel
theorem dJx4a65c_grow_92f84_36 : decode cJx4a65c_grow_92f84 36 = .ok (.iload_n 3, 1) := by decide +kernel
theorem dJx4a65c_grow_92f84_37 : decode cJx4a65c_grow_92f84 37 = .ok (.invokestatic 66, 3) := by decide +kernel
theorem dJx4a65c_grow_92f84_40 : decode cJx4a65c_grow_92f84 40 = .ok (.dup_x1, 1) := by decide +kernel
theorem dJx4a65c_grow_92f84_41 : decode cJx4a65c_grow_92f84 41 = .ok (.putfield 9, 3) := by decide +kernel
theorem dJx4a65c_grow_92f84_44 : decode cJx4a65c_grow_92f84 44 = .ok (.areturn, 1) := by decide +kernel
theorem dJx4a65c_grow_92f84_45 : decode cJx4a65c_grow_92f84 45 = .ok (.aload_n 0, 1) := by decide +kernel
theorem dJx4a65c_grow_92f84_46 : decode cJx4a65c_grow_92f84 46 = .ok (.bipush 10, 2) := by decide +kernel
theorem dJx4a65c_grow_92f84_48 : decode cJx4a65c_grow_92f84 48 = .ok (.iload_n 1, 1) := by decide +kernel
theorem dJx4a65c_grow_92f84_49 : decode cJx4a65c_grow_92f84 49 = .ok (.invokestatic 79, 3) := by decide +kernel
theorem dJx4a65c_grow_92f84_52 : decode cJx4a65c_grow_92f84 52 = .ok (.anewarray 7, 3) := by decide +kernel
theorem dJx4a65c_grow_92f84_55 : decode cJx4a65c_grow_92f84 55 = .ok (.dup_x1, 1) := by decide +kernel
theorem dJx4a65c_grow_92f84_56 : decode cJx4a65c_grow_92f84 56 = .ok (.putfield 9, 3) := by decide +kernel
theorem dJx4a65c_grow_92f84_59 : decode cJx4a65c_grow_92f84 59 = .ok (.areturn, 1) := by decide +kernel
theorem dJx4a65c_grow_d5877_0 : decode cJx4a65c_grow_d5877 0 = .ok (.aload_n 0, 1) := by decide +kernel
theorem dJx4a65c_grow_d5877_1 : decode cJx4a65c_grow_d5877 1 = .ok (.aload_n 0, 1) := by decide +kernel
theorem dJx4a65c_grow_d5877_2 : decode cJx4a65c_grow_d5877 2 = .ok (.getfield 48, 3) := by decide +kernel
theorem dJx4a65c_grow_d5877_5 : decode cJx4a65c_grow_d5877 5 = .ok (.iconst 1, 1) := by decide +kernel
theorem dJx4a65c_grow_d5877_6 : decode cJx4a65c_grow_d5877 6 = .ok (.iadd, 1) := by decide +kernel
theorem dJx4a65c_grow_d5877_7 : decode cJx4a65c_grow_d5877 7 = .ok (.invokevirtual 69, 3) := by decide +kernel
theorem dJx4a65c_grow_d5877_10 : decode cJx4a65c_grow_d5877 10 = .ok (.areturn, 1) := by decide +kernel
theorem dJx4a65c_size_8abf5_0 : decode cJx4a65c_size_8abf5 0 = .ok (.aload_n 0, 1) := by decide +kernel
theorem dJx4a65c_size_8abf5_1 : decode cJx4a65c_size_8abf5 1 = .ok (.getfield 48, 3) := by decide +kernel
theorem dJx4a65c_size_8abf5_4 : decode cJx4a65c_size_8abf5 4 = .ok (.ireturn, 1) := by decide +kernel
theorem dJx4a65c_elementData_915e3_0 : decode cJx4a65c_elementData_915e3 0 = .ok (.aload_n 0, 1) := by decide +kernel
theorem dJx4a65c_elementData_915e3_1 : decode cJx4a65c_elementData_915e3 1 = .ok (.getfield 9, 3) := by decide +kernel
theorem dJx4a65c_elementData_915e3_4 : decode cJx4a65c_elementData_915e3 4 = .ok (.iload_n 1, 1) := by decide +kernel
theorem dJx4a65c_elementData_915e3_5 : decode cJx4a65c_elementData_915e3 5 = .ok (.aaload, 1) := by decide +kernel
theorem dJx4a65c_elementData_915e3_6 : decode cJx4a65c_elementData_915e3 6 = .ok (.areturn, 1) := by decide +kernel
theorem dJx4a65c_get_915e3_0 : decode cJx4a65c_get_915e3 0 = .ok (.iload_n 1, 1) := by decide +kernel
theorem dJx4a65c_get_915e3_1 : decode cJx4a65c_get_915e3 1 = .ok (.aload_n 0, 1) := by decide +kernel
theorem dJx4a65c_get_915e3_2 : decode cJx4a65c_get_915e3 2 = .ok (.getfield 48, 3) := by decide +kernel
theorem dJx4a65c_get_915e3_5 : decode cJx4a65c_get_915e3 5 = .ok (.invokestatic 118, 3) := by decide +kernel
theorem dJx4a65c_get_915e3_8 : decode cJx4a65c_get_915e3 8 = .ok (.pop, 1) := by decide +kernel
theorem dJx4a65c_get_915e3_9 : decode cJx4a65c_get_915e3 9 = .ok (.aload_n 0, 1) := by decide +kernel
theorem dJx4a65c_get_915e3_10 : decode cJx4a65c_get_915e3 10 = .ok (.iload_n 1, 1) := by decide +kernel
theorem dJx4a65c_get_915e3_11 : decode cJx4a65c_get_915e3 11 = .ok (.invokevirtual 123, 3) := by decide +kernel
theorem dJx4a65c_get_915e3_14 : decode cJx4a65c_get_915e3 14 = .ok (.areturn, 1) := by decide +kernel
theorem dJx4a65c_add_72be8_0 : decode cJx4a65c_add_72be8 0 = .ok (.iload_n 3, 1) := by decide +kernel
theorem dJx4a65c_add_72be8_1 : decode cJx4a65c_add_72be8 1 = .ok (.aload_n 2, 1) := by decide +kernel
theorem dJx4a65c_add_72be8_2 : decode cJx4a65c_add_72be8 2 = .ok (.arraylength, 1) := by decide +kernel
theorem dJx4a65c_add_72be8_3 : decode cJx4a65c_add_72be8 3 = .ok (.if_icmp .ne 8, 3) := by decide +kernel
theorem dJx4a65c_add_72be8_6 : decode cJx4a65c_add_72be8 6 = .ok (.aload_n 0, 1) := by decide +kernel
theorem dJx4a65c_add_72be8_7 : decode cJx4a65c_add_72be8 7 = .ok (.invokevirtual 129, 3) := by decide +kernel
theorem dJx4a65c_add_72be8_10 : decode cJx4a65c_add_72be8 10 = .ok (.astore_n 2, 1) := by decide +kernel
theorem dJx4a65c_add_72be8_11 : decode cJx4a65c_add_72be8 11 = .ok (.aload_n 2, 1) := by decide +kernel
theorem dJx4a65c_add_72be8_12 : decode cJx4a65c_add_72be8 12 = .ok (.iload_n 3, 1) := by decide +kernel
theorem dJx4a65c_add_72be8_13 : decode cJx4a65c_add_72be8 13 = .ok (.aload_n 1, 1) := by decide +kernel
theorem dJx4a65c_add_72be8_14 : decode cJx4a65c_add_72be8 14 = .ok (.aastore, 1) := by decide +kernel
theorem dJx4a65c_add_72be8_15 : decode cJx4a65c_add_72be8 15 = .ok (.aload_n 0, 1) := by decide +kernel
theorem dJx4a65c_add_72be8_16 : decode cJx4a65c_add_72be8 16 = .ok (.iload_n 3, 1) := by decide +kernel
theorem dJx4a65c_add_72be8_17 : decode cJx4a65c_add_72be8 17 = .ok (.iconst 1, 1) := by decide +kernel
theorem dJx4a65c_add_72be8_18 : decode cJx4a65c_add_72be8 18 = .ok (.iadd, 1) := by decide +kernel
theorem dJx4a65c_add_72be8_19 : decode cJx4a65c_add_72be8 19 = .ok (.putfield 48, 3) := by decide +kernel
theorem dJx4a65c_add_72be8_22 : decode cJx4a65c_add_72be8 22 = .ok (.return_, 1) := by decide +kernel
theorem dJx4a65c_add_9ea2d_0 : decode cJx4a65c_add_9ea2d 0 = .ok (.aload_n 0, 1) := by decide +kernel
theorem dJx4a65c_add_9ea2d_1 : decode cJx4a65c_add_9ea2d 1 = .ok (.dup, 1) := by decide +kernel
theorem dJx4a65c_add_9ea2d_2 : decode cJx4a65c_add_9ea2d 2 = .ok (.getfield 63, 3) := by decide +kernel
theorem dJx4a65c_add_9ea2d_5 : decode cJx4a65c_add_9ea2d 5 = .ok (.iconst 1, 1) := by decide +kernel
theorem dJx4a65c_add_9ea2d_6 : decode cJx4a65c_add_9ea2d 6 = .ok (.iadd, 1) := by decide +kernel
theorem dJx4a65c_add_9ea2d_7 : decode cJx4a65c_add_9ea2d 7 = .ok (.putfield 63, 3) := by decide +kernel
theorem dJx4a65c_add_9ea2d_10 : decode cJx4a65c_add_9ea2d 10 = .ok (.aload_n 0, 1) := by decide +kernel
theorem dJx4a65c_add_9ea2d_11 : decode cJx4a65c_add_9ea2d 11 = .ok (.aload_n 1, 1) := by decide +kernel
theorem dJx4a65c_add_9ea2d_12 : decode cJx4a65c_add_9ea2d 12 = .ok (.aload_n 0, 1) := by decide +kernel
theorem dJx4a65c_add_9ea2d_13 : decode cJx4a65c_add_9ea2d 13 = .ok (.getfield 9, 3) := by decide +kernel
theorem dJx4a65c_add_9ea2d_16 : decode cJx4a65c_add_9ea2d 16 = .ok (.aload_n 0, 1) := by decide +kernel
theorem dJx4a65c_add_9ea2d_17 : decode cJx4a65c_add_9ea2d 17 = .ok (.getfield 48, 3) := by decide +kernel
theorem dJx4a65c_add_9ea2d_20 : decode cJx4a65c_add_9ea2d 20 = .ok (.invokevirtual 131, 3) := by decide +kernel
theorem dJx4a65c_add_9ea2d_23 : decode cJx4a65c_add_9ea2d 23 = .ok (.iconst 1, 1) := by decide +kernel
theorem dJx4a65c_add_9ea2d_24 : decode cJx4a65c_add_9ea2d 24 = .ok (.ireturn, 1) := by decide +kernel
theorem dJ7_rangeCheck_23922_0 : decode cJ7_rangeCheck_23922 0 = .ok (.iload_n 1, 1) := by decide +kernel
theorem dJ7_rangeCheck_23922_1 : decode cJ7_rangeCheck_23922 1 = .ok (.iload_n 2, 1) := by decide +kernel
theorem dJ7_rangeCheck_23922_2 : decode cJ7_rangeCheck_23922 2 = .ok (.if_icmp .le 44, 3) := by decide +kernel
theorem dJ7_rangeCheck_23922_5 : decode cJ7_rangeCheck_23922 5 = .ok (.new 43, 3) := by decide +kernel
theorem dJ7_rangeCheck_23922_8 : decode cJ7_rangeCheck_23922 8 = .ok (.dup, 1) := by decide +kernel
theorem dJ7_rangeCheck_23922_9 : decode cJ7_rangeCheck_23922 9 = .ok (.new 45, 3) := by decide +kernel
theorem dJ7_rangeCheck_23922_12 : decode cJ7_rangeCheck_23922 12 = .ok (.dup, 1) := by decide +kernel
theorem dJ7_rangeCheck_23922_13 : decode cJ7_rangeCheck_23922 13 = .ok (.invokespecial 47, 3) := by decide +kernel
theorem dJ7_rangeCheck_23922_16 : decode cJ7_rangeCheck_23922 16 = .ok (.ldc 48, 2) := by decide +kernel
theorem dJ7_rangeCheck_23922_18 : decode cJ7_rangeCheck_23922 18 = .ok (.invokevirtual 50, 3) := by decide +kernel
theorem dJ7_rangeCheck_23922_21 : decode cJ7_rangeCheck_23922 21 = .ok (.iload_n 1, 1) := by decide +kernel
theorem dJ7_rangeCheck_23922_22 : decode cJ7_rangeCheck_23922 22 = .ok (.invokevirtual 54, 3) := by decide +kernel
theorem dJ7_rangeCheck_23922_25 : decode cJ7_rangeCheck_23922 25 = .ok (.ldc 57, 2) := by decide +kernel
theorem dJ7_rangeCheck_23922_27 : decode cJ7_rangeCheck_23922 27 = .ok (.invokevirtual 50, 3) := by decide +kernel
theorem dJ7_rangeCheck_23922_30 : decode cJ7_rangeCheck_23922 30 = .ok (.iload_n 2, 1) := by decide +kernel
theorem dJ7_rangeCheck_23922_31 : decode cJ7_rangeCheck_23922 31 = .ok (.invokevirtual 54, 3) := by decide +kernel
theorem dJ7_rangeCheck_23922_34 : decode cJ7_rangeCheck_23922 34 = .ok (.ldc 59, 2) := by decide +kernel
theorem dJ7_rangeCheck_23922_36 : decode cJ7_rangeCheck_23922 36 = .ok (.invokevirtual 50, 3) := by decide +kernel
theorem dJ7_rangeCheck_23922_39 : decode cJ7_rangeCheck_23922 39 = .ok (.invokevirtual 61, 3) := by decide +kernel
theorem dJ7_rangeCheck_23922_42 : decode cJ7_rangeCheck_23922 42 = .ok (.invokespecial 65, 3) := by decide +kernel
theorem dJ7_rangeCheck_23922_45 : decode cJ7_rangeCheck_23922 45 = .ok (.athrow, 1) := by decide +kernel
theorem dJ7_rangeCheck_23922_46 : decode cJ7_rangeCheck_23922 46 = .ok (.iload_n 1, 1) := by decide +kernel
theorem dJ7_rangeCheck_23922_47 : decode cJ7_rangeCheck_23922 47 = .ok (.ifCond .ge 12, 3) := by decide +kernel
theorem dJ7_rangeCheck_23922_50 : decode cJ7_rangeCheck_23922 50 = .ok (.new 68, 3) := by decide +kernel
theorem dJ7_rangeCheck_23922_53 : decode cJ7_rangeCheck_23922 53 = .ok (.dup, 1) := by decide +kernel
theorem dJ7_rangeCheck_23922_54 : decode cJ7_rangeCheck_23922 54 = .ok (.iload_n 1, 1) := by decide +kernel
theorem dJ7_rangeCheck_23922_55 : decode cJ7_rangeCheck_23922 55 = .ok (.invokespecial 70, 3) := by decide +kernel
theorem dJ7_rangeCheck_23922_58 : decode cJ7_rangeCheck_23922 58 = .ok (.athrow, 1) := by decide +kernel
theorem dJ7_rangeCheck_23922_59 : decode cJ7_rangeCheck_23922 59 = .ok (.iload_n 2, 1) := by decide +kernel
theorem dJ7_rangeCheck_23922_60 : decode cJ7_rangeCheck_23922 60 = .ok (.iload_n 0, 1) := by decide +kernel
theorem dJ7_rangeCheck_23922_61 : decode cJ7_rangeCheck_23922 61 = .ok (.if_icmp .le 12, 3) := by decide +kernel
theorem dJ7_rangeCheck_23922_64 : decode cJ7_rangeCheck_23922 64 = .ok (.new 68, 3) := by decide +kernel
theorem dJ7_rangeCheck_23922_67 : decode cJ7_rangeCheck_23922 67 = .ok (.dup, 1) := by decide +kernel
theorem dJ7_rangeCheck_23922_68 : decode cJ7_rangeCheck_23922 68 = .ok (.iload_n 2, 1) := by decide +kernel
theorem dJ7_rangeCheck_23922_69 : decode cJ7_rangeCheck_23922 69 = .ok (.invokespecial 70, 3) := by decide +kernel
theorem dJ7_rangeCheck_23922_72 : decode cJ7_rangeCheck_23922 72 = .ok (.athrow, 1) := by decide +kernel
theorem dJ7_rangeCheck_23922_73 : decode cJ7_rangeCheck_23922 73 = .ok (.return_, 1) := by decide +kernel
theorem dJ7_fill_eb02e_0 : decode cJ7_fill_eb02e 0 = .ok (.aload_n 0, 1) := by decide +kernel
theorem dJ7_fill_eb02e_1 : decode cJ7_fill_eb02e 1 = .ok (.arraylength, 1) := by decide +kernel
theorem dJ7_fill_eb02e_2 : decode cJ7_fill_eb02e 2 = .ok (.iload_n 1, 1) := by decide +kernel
theorem dJ7_fill_eb02e_3 : decode cJ7_fill_eb02e 3 = .ok (.iload_n 2, 1) := by decide +kernel
theorem dJ7_fill_eb02e_4 : decode cJ7_fill_eb02e 4 = .ok (.invokestatic 13, 3) := by decide +kernel
theorem dJ7_fill_eb02e_7 : decode cJ7_fill_eb02e 7 = .ok (.iload_n 1, 1) := by decide +kernel
theorem dJ7_fill_eb02e_8 : decode cJ7_fill_eb02e 8 = .ok (.istore 4, 2) := by decide +kernel
theorem dJ7_fill_eb02e_10 : decode cJ7_fill_eb02e 10 = .ok (.iload 4, 2) := by decide +kernel
theorem dJ7_fill_eb02e_12 : decode cJ7_fill_eb02e 12 = .ok (.iload_n 2, 1) := by decide +kernel
theorem dJ7_fill_eb02e_13 : decode cJ7_fill_eb02e 13 = .ok (.if_icmp .ge 14, 3) := by decide +kernel
theorem dJ7_fill_eb02e_16 : decode cJ7_fill_eb02e 16 = .ok (.aload_n 0, 1) := by decide +kernel
theorem dJ7_fill_eb02e_17 : decode cJ7_fill_eb02e 17 = .ok (.iload 4, 2) := by decide +kernel
theorem dJ7_fill_eb02e_19 : decode cJ7_fill_eb02e 19 = .ok (.iload_n 3, 1) := by decide +kernel
theorem dJ7_fill_eb02e_20 : decode cJ7_fill_eb02e 20 = .ok (.bastore, 1) := by decide +kernel
theorem dJ7_fill_eb02e_21 : decode cJ7_fill_eb02e 21 = .ok (.iinc 4 1, 3) := by decide +kernel
theorem dJ7_fill_eb02e_24 : decode cJ7_fill_eb02e 24 = .ok (.goto (-14), 3) := by decide +kernel
theorem dJ7_fill_eb02e_27 : decode cJ7_fill_eb02e 27 = .ok (.return_, 1) := by decide +kernel
theorem dJ7_copyOf_1904c_0 : decode cJ7_copyOf_1904c 0 = .ok (.aload_n 0, 1) := by decide +kernel
theorem dJ7_copyOf_1904c_1 : decode cJ7_copyOf_1904c 1 = .ok (.iload_n 1, 1) := by decide +kernel
theorem dJ7_copyOf_1904c_2 : decode cJ7_copyOf_1904c 2 = .ok (.aload_n 0, 1) := by decide +kernel
theorem dJ7_copyOf_1904c_3 : decode cJ7_copyOf_1904c 3 = .ok (.invokevirtual 86, 3) := by decide +kernel
theorem dJ7_copyOf_1904c_6 : decode cJ7_copyOf_1904c 6 = .ok (.invokestatic 300, 3) := by decide +kernel
theorem dJ7_copyOf_1904c_9 : decode cJ7_copyOf_1904c 9 = .ok (.areturn, 1) := by decide +kernel
theorem dJ7_copyOf_6403c_0 : decode cJ7_copyOf_6403c 0 = .ok (.aload_n 2, 1) := by decide +kernel
theorem dJ7_copyOf_6403c_1 : decode cJ7_copyOf_6403c 1 = .ok (.ldc 110, 2) := by decide +kernel
theorem dJ7_copyOf_6403c_3 : decode cJ7_copyOf_6403c 3 = .ok (.if_acmp .ne 10, 3) := by decide +kernel
theorem dJ7_copyOf_6403c_6 : decode cJ7_copyOf_6403c 6 = .ok (.iload_n 1, 1) := by decide +kernel
theorem dJ7_copyOf_6403c_7 : decode cJ7_copyOf_6403c 7 = .ok (.anewarray 2, 3) := by decide +kernel
theorem dJ7_copyOf_6403c_10 : decode cJ7_copyOf_6403c 10 = .ok (.goto 14, 3) := by decide +kernel
theorem dJ7_copyOf_6403c_13 : decode cJ7_copyOf_6403c 13 = .ok (.aload_n 2, 1) := by decide +kernel
theorem dJ7_copyOf_6403c_14 : decode cJ7_copyOf_6403c 14 = .ok (.invokevirtual 90, 3) := by decide +kernel
theorem dJ7_copyOf_6403c_17 : decode cJ7_copyOf_6403c 17 = .ok (.iload_n 1, 1) := by decide +kernel
theorem dJ7_copyOf_6403c_18 : decode cJ7_copyOf_6403c 18 = .ok (.invokestatic 95, 3) := by decide +kernel
theorem dJ7_copyOf_6403c_21 : decode cJ7_copyOf_6403c 21 = .ok (.checkcast 110, 3) := by decide +kernel
theorem dJ7_copyOf_6403c_24 : decode cJ7_copyOf_6403c 24 = .ok (.astore_n 3, 1) := by decide +kernel
theorem dJ7_copyOf_6403c_25 : decode cJ7_copyOf_6403c 25 = .ok (.aload_n 0, 1) := by decide +kernel
theorem dJ7_copyOf_6403c_26 : decode cJ7_copyOf_6403c 26 = .ok (.iconst 0, 1) := by decide +kernel
theorem dJ7_copyOf_6403c_27 : decode cJ7_copyOf_6403c 27 = .ok (.aload_n 3, 1) := by decide +kernel
theorem dJ7_copyOf_6403c_28 : decode cJ7_copyOf_6403c 28 = .ok (.iconst 0, 1) := by decide +kernel
theorem dJ7_copyOf_6403c_29 : decode cJ7_copyOf_6403c 29 = .ok (.aload_n 0, 1) := by decide +kernel
theorem dJ7_copyOf_6403c_30 : decode cJ7_copyOf_6403c 30 = .ok (.arraylength, 1) := by decide +kernel
theorem dJ7_copyOf_6403c_31 : decode cJ7_copyOf_6403c 31 = .ok (.iload_n 1, 1) := by decide +kernel
theorem dJ7_copyOf_6403c_32 : decode cJ7_copyOf_6403c 32 = .ok (.invokestatic 304, 3) := by decide +kernel
theorem dJ7_copyOf_6403c_35 : decode cJ7_copyOf_6403c 35 = .ok (.invokestatic 150, 3) := by decide +kernel
theorem dJ7_copyOf_6403c_38 : decode cJ7_copyOf_6403c 38 = .ok (.aload_n 3, 1) := by decide +kernel
theorem dJ7_copyOf_6403c_39 : decode cJ7_copyOf_6403c 39 = .ok (.areturn, 1) := by decide +kernel
theorem dJ7_copyOf_9075b_0 : decode cJ7_copyOf_9075b 0 = .ok (.iload_n 1, 1) := by decide +kernel
theorem dJ7_copyOf_9075b_1 : decode cJ7_copyOf_9075b 1 = .ok (.aload_n 0, 1) := by decide +kernel
theorem dJ7_copyOf_9075b_2 : decode cJ7_copyOf_9075b 2 = .ok (.arraylength, 1) := by decide +kernel
theorem dJ7_copyOf_9075b_3 : decode cJ7_copyOf_9075b 3 = .ok (.if_icmp .ne 11, 3) := by decide +kernel
theorem dJ7_copyOf_9075b_6 : decode cJ7_copyOf_9075b 6 = .ok (.aload_n 0, 1) := by decide +kernel
theorem dJ7_copyOf_9075b_7 : decode cJ7_copyOf_9075b 7 = .ok (.invokevirtual 310, 3) := by decide +kernel
theorem dJ7_copyOf_9075b_10 : decode cJ7_copyOf_9075b 10 = .ok (.checkcast 311, 3) := by decide +kernel
theorem dJ7_copyOf_9075b_13 : decode cJ7_copyOf_9075b 13 = .ok (.areturn, 1) := by decide +kernel
theorem dJ7_copyOf_9075b_14 : decode cJ7_copyOf_9075b 14 = .ok (.iload_n 1, 1) := by decide +kernel
theorem dJ7_copyOf_9075b_15 : decode cJ7_copyOf_9075b 15 = .ok (.newarray .byte, 2) := by decide +kernel
theorem dJ7_copyOf_9075b_17 : decode cJ7_copyOf_9075b 17 = .ok (.astore_n 2, 1) := by decide +kernel
theorem dJ7_copyOf_9075b_18 : decode cJ7_copyOf_9075b 18 = .ok (.aload_n 0, 1) := by decide +kernel
theorem dJ7_copyOf_9075b_19 : decode cJ7_copyOf_9075b 19 = .ok (.iconst 0, 1) := by decide +kernel
theorem dJ7_copyOf_9075b_20 : decode cJ7_copyOf_9075b 20 = .ok (.aload_n 2, 1) := by decide +kernel
theorem dJ7_copyOf_9075b_21 : decode cJ7_copyOf_9075b 21 = .ok (.iconst 0, 1) := by decide +kernel
theorem dJ7_copyOf_9075b_22 : decode cJ7_copyOf_9075b 22 = .ok (.aload_n 0, 1) := by decide +kernel
theorem dJ7_copyOf_9075b_23 : decode cJ7_copyOf_9075b 23 = .ok (.arraylength, 1) := by decide +kernel
theorem dJ7_copyOf_9075b_24 : decode cJ7_copyOf_9075b 24 = .ok (.iload_n 1, 1) := by decide +kernel
theorem dJ7_copyOf_9075b_25 : decode cJ7_copyOf_9075b 25 = .ok (.invokestatic 304, 3) := by decide +kernel
theorem dJ7_copyOf_9075b_28 : decode cJ7_copyOf_9075b 28 = .ok (.invokestatic 150, 3) := by decide +kernel
theorem dJ7_copyOf_9075b_31 : decode cJ7_copyOf_9075b 31 = .ok (.aload_n 2, 1) := by decide +kernel
theorem dJ7_copyOf_9075b_32 : decode cJ7_copyOf_9075b 32 = .ok (.areturn, 1) := by decide +kernel
theorem dJ7_copyOf_59c91_0 : decode cJ7_copyOf_59c91 0 = .ok (.iload_n 1, 1) := by decide +kernel
theorem dJ7_copyOf_59c91_1 : decode cJ7_copyOf_59c91 1 = .ok (.aload_n 0, 1) := by decide +kernel
theorem dJ7_copyOf_59c91_2 : decode cJ7_copyOf_59c91 2 = .ok (.arraylength, 1) := by decide +kernel
theorem dJ7_copyOf_59c91_3 : decode cJ7_copyOf_59c91 3 = .ok (.if_icmp .ne 11, 3) := by decide +kernel
theorem dJ7_copyOf_59c91_6 : decode cJ7_copyOf_59c91 6 = .ok (.aload_n 0, 1) := by decide +kernel
theorem dJ7_copyOf_59c91_7 : decode cJ7_copyOf_59c91 7 = .ok (.invokevirtual 316, 3) := by decide +kernel
theorem dJ7_copyOf_59c91_10 : decode cJ7_copyOf_59c91 10 = .ok (.checkcast 317, 3) := by decide +kernel
theorem dJ7_copyOf_59c91_13 : decode cJ7_copyOf_59c91 13 = .ok (.areturn, 1) := by decide +kernel
theorem dJ7_copyOf_59c91_14 : decode cJ7_copyOf_59c91 14 = .ok (.iload_n 1, 1) := by decide +kernel
theorem dJ7_copyOf_59c91_15 : decode cJ7_copyOf_59c91 15 = .ok (.newarray .int, 2) := by decide +kernel
theorem dJ7_copyOf_59c91_17 : decode cJ7_copyOf_59c91 17 = .ok (.astore_n 2, 1) := by decide +kernel
theorem dJ7_copyOf_59c91_18 : decode cJ7_copyOf_59c91 18 = .ok (.aload_n 0, 1) := by decide +kernel
theorem dJ7_copyOf_59c91_19 : decode cJ7_copyOf_59c91 19 = .ok (.iconst 0, 1) := by decide +kernel
theorem dJ7_copyOf_59c91_20 : decode cJ7_copyOf_59c91 20 = .ok (.aload_n 2, 1) := by decide +kernel
theorem dJ7_copyOf_59c91_21 : decode cJ7_copyOf_59c91 21 = .ok (.iconst 0, 1) := by decide +kernel
theorem dJ7_copyOf_59c91_22 : decode cJ7_copyOf_59c91 22 = .ok (.aload_n 0, 1) := by decide +kernel
theorem dJ7_copyOf_59c91_23 : decode cJ7_copyOf_59c91 23 = .ok (.arraylength, 1) := by decide +kernel
theorem dJ7_copyOf_59c91_24 : decode cJ7_copyOf_59c91 24 = .ok (.iload_n 1, 1) := by decide +kernel
theorem dJ7_copyOf_59c91_25 : decode cJ7_copyOf_59c91 25 = .ok (.invokestatic 304, 3) := by decide +kernel
theorem dJ7_copyOf_59c91_28 : decode cJ7_copyOf_59c91 28 = .ok (.invokestatic 150, 3) := by decide +kernel
theorem dJ7_copyOf_59c91_31 : decode cJ7_copyOf_59c91 31 = .ok (.aload_n 2, 1) := by decide +kernel
theorem dJ7_copyOf_59c91_32 : decode cJ7_copyOf_59c91 32 = .ok (.areturn, 1) := by decide +kernel
theorem dJ7_copyOf_c38d5_0 : decode cJ7_copyOf_c38d5 0 = .ok (.iload_n 1, 1) := by decide +kernel
theorem dJ7_copyOf_c38d5_1 : decode cJ7_copyOf_c38d5 1 = .ok (.aload_n 0, 1) := by decide +kernel
theorem dJ7_copyOf_c38d5_2 : decode cJ7_copyOf_c38d5 2 = .ok (.arraylength, 1) := by decide +kernel
theorem dJ7_copyOf_c38d5_3 : decode cJ7_copyOf_c38d5 3 = .ok (.if_icmp .ne 11, 3) := by decide +kernel
theorem dJ7_copyOf_c38d5_6 : decode cJ7_copyOf_c38d5 6 = .ok (.aload_n 0, 1) := by decide +kernel
theorem dJ7_copyOf_c38d5_7 : decode cJ7_copyOf_c38d5 7 = .ok (.invokevirtual 319, 3) := by decide +kernel
theorem dJ7_copyOf_c38d5_10 : decode cJ7_copyOf_c38d5 10 = .ok (.checkcast 320, 3) := by decide +kernel
theorem dJ7_copyOf_c38d5_13 : decode cJ7_copyOf_c38d5 13 = .ok (.areturn, 1) := by decide +kernel
theorem dJ7_copyOf_c38d5_14 : decode cJ7_copyOf_c38d5 14 = .ok (.iload_n 1, 1) := by decide +kernel
theorem dJ7_copyOf_c38d5_15 : decode cJ7_copyOf_c38d5 15 = .ok (.newarray .long, 2) := by decide +kernel
theorem dJ7_copyOf_c38d5_17 : decode cJ7_copyOf_c38d5 17 = .ok (.astore_n 2, 1) := by decide +kernel
theorem dJ7_copyOf_c38d5_18 : decode cJ7_copyOf_c38d5 18 = .ok (.aload_n 0, 1) := by decide +kernel
theorem dJ7_copyOf_c38d5_19 : decode cJ7_copyOf_c38d5 19 = .ok (.iconst 0, 1) := by decide +kernel
theorem dJ7_copyOf_c38d5_20 : decode cJ7_copyOf_c38d5 20 = .ok (.aload_n 2, 1) := by decide +kernel
theorem dJ7_copyOf_c38d5_21 : decode cJ7_copyOf_c38d5 21 = .ok (.iconst 0, 1) := by decide +kernel
theorem dJ7_copyOf_c38d5_22 : decode cJ7_copyOf_c38d5 22 = .ok (.aload_n 0, 1) := by decide +kernel
theorem dJ7_copyOf_c38d5_23 : decode cJ7_copyOf_c38d5 23 = .ok (.arraylength, 1) := by decide +kernel
theorem dJ7_copyOf_c38d5_24 : decode cJ7_copyOf_c38d5 24 = .ok (.iload_n 1, 1) := by decide +kernel
theorem dJ7_copyOf_c38d5_25 : decode cJ7_copyOf_c38d5 25 = .ok (.invokestatic 304, 3) := by decide +kernel
theorem dJ7_copyOf_c38d5_28 : decode cJ7_copyOf_c38d5 28 = .ok (.invokestatic 150, 3) := by decide +kernel
theorem dJ7_copyOf_c38d5_31 : decode cJ7_copyOf_c38d5 31 = .ok (.aload_n 2, 1) := by decide +kernel
theorem dJ7_copyOf_c38d5_32 : decode cJ7_copyOf_c38d5 32 = .ok (.areturn, 1) := by decide +kernel
theorem dJ15_checkIndex_7cf53_0 : decode cJ15_checkIndex_7cf53 0 = .ok (.iload_n 0, 1) := by decide +kernel
theorem dJ15_checkIndex_7cf53_1 : decode cJ15_checkIndex_7cf53 1 = .ok (.iload_n 1, 1) := by decide +kernel
theorem dJ15_checkIndex_7cf53_2 : decode cJ15_checkIndex_7cf53 2 = .ok (.aconst_null, 1) := by decide +kernel
theorem dJ15_checkIndex_7cf53_3 : decode cJ15_checkIndex_7cf53 3 = .ok (.invokestatic 105, 3) := by decide +kernel
theorem dJ15_checkIndex_7cf53_6 : decode cJ15_checkIndex_7cf53 6 = .ok (.ireturn, 1) := by decide +kernel
theorem dJ8_newLength_cabcc_0 : decode cJ8_newLength_cabcc 0 = .ok (.iload_n 0, 1) := by decide +kernel
theorem dJ8_newLength_cabcc_1 : decode cJ8_newLength_cabcc 1 = .ok (.iload_n 1, 1) := by decide +kernel
theorem dJ8_newLength_cabcc_2 : decode cJ8_newLength_cabcc 2 = .ok (.iload_n 2, 1) := by decide +kernel
theorem dJ8_newLength_cabcc_3 : decode cJ8_newLength_cabcc 3 = .ok (.invokestatic 194, 3) := by decide +kernel
theorem dJ8_newLength_cabcc_6 : decode cJ8_newLength_cabcc 6 = .ok (.iadd, 1) := by decide +kernel
theorem dJ8_newLength_cabcc_7 : decode cJ8_newLength_cabcc 7 = .ok (.istore_n 3, 1) := by decide +kernel
theorem dJ8_newLength_cabcc_8 : decode cJ8_newLength_cabcc 8 = .ok (.iconst 0, 1) := by decide +kernel
theorem dJ8_newLength_cabcc_9 : decode cJ8_newLength_cabcc 9 = .ok (.iload_n 3, 1) := by decide +kernel
theorem dJ8_newLength_cabcc_10 : decode cJ8_newLength_cabcc 10 = .ok (.if_icmp .ge 11, 3) := by decide +kernel
theorem dJ8_newLength_cabcc_13 : decode cJ8_newLength_cabcc 13 = .ok (.iload_n 3, 1) := by decide +kernel
theorem dJ8_newLength_cabcc_14 : decode cJ8_newLength_cabcc 14 = .ok (.ldc 200, 2) := by decide +kernel
theorem dJ8_newLength_cabcc_16 : decode cJ8_newLength_cabcc 16 = .ok (.if_icmp .gt 5, 3) := by decide +kernel
theorem dJ8_newLength_cabcc_19 : decode cJ8_newLength_cabcc 19 = .ok (.iload_n 3, 1) := by decide +kernel
theorem dJ8_newLength_cabcc_20 : decode cJ8_newLength_cabcc 20 = .ok (.ireturn, 1) := by decide +kernel
theorem dJ8_newLength_cabcc_21 : decode cJ8_newLength_cabcc 21 = .ok (.iload_n 0, 1) := by decide +kernel
theorem dJ8_newLength_cabcc_22 : decode cJ8_newLength_cabcc 22 = .ok (.iload_n 1, 1) := by decide +kernel
theorem dJ8_newLength_cabcc_23 : decode cJ8_newLength_cabcc 23 = .ok (.invokestatic 201, 3) := by decide +kernel
theorem dJ8_newLength_cabcc_26 : decode cJ8_newLength_cabcc 26 = .ok (.ireturn, 1) := by decide +kernel
theorem dJ8_hugeLength_7cf53_0 : decode cJ8_hugeLength_7cf53 0 = .ok (.iload_n 0, 1) := by decide +kernel
theorem dJ8_hugeLength_7cf53_1 : decode cJ8_hugeLength_7cf53 1 = .ok (.iload_n 1, 1) := by decide +kernel
theorem dJ8_hugeLength_7cf53_2 : decode cJ8_hugeLength_7cf53 2 = .ok (.iadd, 1) := by decide +kernel
theorem dJ8_hugeLength_7cf53_3 : decode cJ8_hugeLength_7cf53 3 = .ok (.istore_n 2, 1) := by decide +kernel
theorem dJ8_hugeLength_7cf53_4 : decode cJ8_hugeLength_7cf53 4 = .ok (.iload_n 2, 1) := by decide +kernel
theorem dJ8_hugeLength_7cf53_5 : decode cJ8_hugeLength_7cf53 5 = .ok (.ifCond .ge 44, 3) := by decide +kernel
theorem dJ8_hugeLength_7cf53_8 : decode cJ8_hugeLength_7cf53 8 = .ok (.new 204, 3) := by decide +kernel
theorem dJ8_hugeLength_7cf53_11 : decode cJ8_hugeLength_7cf53 11 = .ok (.dup, 1) := by decide +kernel
theorem dJ8_hugeLength_7cf53_12 : decode cJ8_hugeLength_7cf53 12 = .ok (.new 89, 3) := by decide +kernel
theorem dJ8_hugeLength_7cf53_15 : decode cJ8_hugeLength_7cf53 15 = .ok (.dup, 1) := by decide +kernel
theorem dJ8_hugeLength_7cf53_16 : decode cJ8_hugeLength_7cf53 16 = .ok (.invokespecial 91, 3) := by decide +kernel
theorem dJ8_hugeLength_7cf53_19 : decode cJ8_hugeLength_7cf53 19 = .ok (.ldc 206, 2) := by decide +kernel
theorem dJ8_hugeLength_7cf53_21 : decode cJ8_hugeLength_7cf53 21 = .ok (.invokevirtual 94, 3) := by decide +kernel
theorem dJ8_hugeLength_7cf53_24 : decode cJ8_hugeLength_7cf53 24 = .ok (.iload_n 0, 1) := by decide +kernel
theorem dJ8_hugeLength_7cf53_25 : decode cJ8_hugeLength_7cf53 25 = .ok (.invokevirtual 98, 3) := by decide +kernel
theorem dJ8_hugeLength_7cf53_28 : decode cJ8_hugeLength_7cf53 28 = .ok (.ldc 208, 2) := by decide +kernel
theorem dJ8_hugeLength_7cf53_30 : decode cJ8_hugeLength_7cf53 30 = .ok (.invokevirtual 94, 3) := by decide +kernel
theorem dJ8_hugeLength_7cf53_33 : decode cJ8_hugeLength_7cf53 33 = .ok (.iload_n 1, 1) := by decide +kernel
theorem dJ8_hugeLength_7cf53_34 : decode cJ8_hugeLength_7cf53 34 = .ok (.invokevirtual 98, 3) := by decide +kernel
theorem dJ8_hugeLength_7cf53_37 : decode cJ8_hugeLength_7cf53 37 = .ok (.ldc 210, 2) := by decide +kernel
theorem dJ8_hugeLength_7cf53_39 : decode cJ8_hugeLength_7cf53 39 = .ok (.invokevirtual 94, 3) := by decide +kernel
theorem dJ8_hugeLength_7cf53_42 : decode cJ8_hugeLength_7cf53 42 = .ok (.invokevirtual 101, 3) := by decide +kernel
theorem dJ8_hugeLength_7cf53_45 : decode cJ8_hugeLength_7cf53 45 = .ok (.invokespecial 212, 3) := by decide +kernel
theorem dJ8_hugeLength_7cf53_48 : decode cJ8_hugeLength_7cf53 48 = .ok (.athrow, 1) := by decide +kernel
theorem dJ8_hugeLength_7cf53_49 : decode cJ8_hugeLength_7cf53 49 = .ok (.iload_n 2, 1) := by decide +kernel
theorem dJ8_hugeLength_7cf53_50 : decode cJ8_hugeLength_7cf53 50 = .ok (.ldc 200, 2) := by decide +kernel
theorem dJ8_hugeLength_7cf53_52 : decode cJ8_hugeLength_7cf53 52 = .ok (.if_icmp .gt 6, 3) := by decide +kernel
theorem dJ8_hugeLength_7cf53_55 : decode cJ8_hugeLength_7cf53 55 = .ok (.ldc 200, 2) := by decide +kernel
theorem dJ8_hugeLength_7cf53_57 : decode cJ8_hugeLength_7cf53 57 = .ok (.ireturn, 1) := by decide +kernel
theorem dJ8_hugeLength_7cf53_58 : decode cJ8_hugeLength_7cf53 58 = .ok (.iload_n 2, 1) := by decide +kernel
theorem dJ8_hugeLength_7cf53_59 : decode cJ8_hugeLength_7cf53 59 = .ok (.ireturn, 1) := by decide +kernel
theorem dJ3_checkIndex_8e157_0 : decode cJ3_checkIndex_8e157 0 = .ok (.iload_n 0, 1) := by decide +kernel
theorem dJ3_checkIndex_8e157_1 : decode cJ3_checkIndex_8e157 1 = .ok (.ifCond .lt 8, 3) := by decide +kernel
theorem dJ3_checkIndex_8e157_4 : decode cJ3_checkIndex_8e157 4 = .ok (.iload_n 0, 1) := by decide +kernel
theorem dJ3_checkIndex_8e157_5 : decode cJ3_checkIndex_8e157 5 = .ok (.iload_n 1, 1) := by decide +kernel
theorem dJ3_checkIndex_8e157_6 : decode cJ3_checkIndex_8e157 6 = .ok (.if_icmp .lt 10, 3) := by decide +kernel
theorem dJ3_checkIndex_8e157_9 : decode cJ3_checkIndex_8e157 9 = .ok (.aload_n 2, 1) := by decide +kernel
theorem dJ3_checkIndex_8e157_10 : decode cJ3_checkIndex_8e157 10 = .ok (.iload_n 0, 1) := by decide +kernel
theorem dJ3_checkIndex_8e157_11 : decode cJ3_checkIndex_8e157 11 = .ok (.iload_n 1, 1) := by decide +kernel
theorem dJ3_checkIndex_8e157_12 : decode cJ3_checkIndex_8e157 12 = .ok (.invokestatic 95, 3) := by decide +kernel
theorem dJ3_checkIndex_8e157_15 : decode cJ3_checkIndex_8e157 15 = .ok (.athrow, 1) := by decide +kernel
theorem dJ3_checkIndex_8e157_16 : decode cJ3_checkIndex_8e157 16 = .ok (.iload_n 0, 1) := by decide +kernel
theorem dJ3_checkIndex_8e157_17 : decode cJ3_checkIndex_8e157 17 = .ok (.ireturn, 1) := by decide +kernel
theorem dJ3_checkFromToIndex_8c36e_0 : decode cJ3_checkFromToIndex_8c36e 0 = .ok (.iload_n 0, 1) := by decide +kernel
theorem dJ3_checkFromToIndex_8c36e_1 : decode cJ3_checkFromToIndex_8c36e 1 = .ok (.ifCond .lt 13, 3) := by decide +kernel
theorem dJ3_checkFromToIndex_8c36e_4 : decode cJ3_checkFromToIndex_8c36e 4 = .ok (.iload_n 0, 1) := by decide +kernel
theorem dJ3_checkFromToIndex_8c36e_5 : decode cJ3_checkFromToIndex_8c36e 5 = .ok (.iload_n 1, 1) := by decide +kernel
theorem dJ3_checkFromToIndex_8c36e_6 : decode cJ3_checkFromToIndex_8c36e 6 = .ok (.if_icmp .gt 8, 3) := by decide +kernel
theorem dJ3_checkFromToIndex_8c36e_9 : decode cJ3_checkFromToIndex_8c36e 9 = .ok (.iload_n 1, 1) := by decide +kernel
theorem dJ3_checkFromToIndex_8c36e_10 : decode cJ3_checkFromToIndex_8c36e 10 = .ok (.iload_n 2, 1) := by decide +kernel
theorem dJ3_checkFromToIndex_8c36e_11 : decode cJ3_checkFromToIndex_8c36e 11 = .ok (.if_icmp .le 11, 3) := by decide +kernel
theorem dJ3_checkFromToIndex_8c36e_14 : decode cJ3_checkFromToIndex_8c36e 14 = .ok (.aload_n 3, 1) := by decide +kernel
theorem dJ3_checkFromToIndex_8c36e_15 : decode cJ3_checkFromToIndex_8c36e 15 = .ok (.iload_n 0, 1) := by decide +kernel
theorem dJ3_checkFromToIndex_8c36e_16 : decode cJ3_checkFromToIndex_8c36e 16 = .ok (.iload_n 1, 1) := by decide +kernel
theorem dJ3_checkFromToIndex_8c36e_17 : decode cJ3_checkFromToIndex_8c36e 17 = .ok (.iload_n 2, 1) := by decide +kernel
theorem dJ3_checkFromToIndex_8c36e_18 : decode cJ3_checkFromToIndex_8c36e 18 = .ok (.invokestatic 99, 3) := by decide +kernel
theorem dJ3_checkFromToIndex_8c36e_21 : decode cJ3_checkFromToIndex_8c36e 21 = .ok (.athrow, 1) := by decide +kernel
theorem dJ3_checkFromToIndex_8c36e_22 : decode cJ3_checkFromToIndex_8c36e 22 = .ok (.iload_n 0, 1) := by decide +kernel
theorem dJ3_checkFromToIndex_8c36e_23 : decode cJ3_checkFromToIndex_8c36e 23 = .ok (.ireturn, 1) := by decide +kernel
theorem dJ3_checkFromIndexSize_8c36e_0 : decode cJ3_checkFromIndexSize_8c36e 0 = .ok (.iload_n 2, 1) := by decide +kernel
theorem dJ3_checkFromIndexSize_8c36e_1 : decode cJ3_checkFromIndexSize_8c36e 1 = .ok (.iload_n 0, 1) := by decide +kernel
theorem dJ3_checkFromIndexSize_8c36e_2 : decode cJ3_checkFromIndexSize_8c36e 2 = .ok (.ior, 1) := by decide +kernel
theorem dJ3_checkFromIndexSize_8c36e_3 : decode cJ3_checkFromIndexSize_8c36e 3 = .ok (.iload_n 1, 1) := by decide +kernel
theorem dJ3_checkFromIndexSize_8c36e_4 : decode cJ3_checkFromIndexSize_8c36e 4 = .ok (.ior, 1) := by decide +kernel
theorem dJ3_checkFromIndexSize_8c36e_5 : decode cJ3_checkFromIndexSize_8c36e 5 = .ok (.ifCond .lt 10, 3) := by decide +kernel
theorem dJ3_checkFromIndexSize_8c36e_8 : decode cJ3_checkFromIndexSize_8c36e 8 = .ok (.iload_n 1, 1) := by decide +kernel
theorem dJ3_checkFromIndexSize_8c36e_9 : decode cJ3_checkFromIndexSize_8c36e 9 = .ok (.iload_n 2, 1) := by decide +kernel
theorem dJ3_checkFromIndexSize_8c36e_10 : decode cJ3_checkFromIndexSize_8c36e 10 = .ok (.iload_n 0, 1) := by decide +kernel
theorem dJ3_checkFromIndexSize_8c36e_11 : decode cJ3_checkFromIndexSize_8c36e 11 = .ok (.isub, 1) := by decide +kernel
theorem dJ3_checkFromIndexSize_8c36e_12 : decode cJ3_checkFromIndexSize_8c36e 12 = .ok (.if_icmp .le 11, 3) := by decide +kernel
theorem dJ3_checkFromIndexSize_8c36e_15 : decode cJ3_checkFromIndexSize_8c36e 15 = .ok (.aload_n 3, 1) := by decide +kernel
theorem dJ3_checkFromIndexSize_8c36e_16 : decode cJ3_checkFromIndexSize_8c36e 16 = .ok (.iload_n 0, 1) := by decide +kernel
theorem dJ3_checkFromIndexSize_8c36e_17 : decode cJ3_checkFromIndexSize_8c36e 17 = .ok (.iload_n 1, 1) := by decide +kernel
theorem dJ3_checkFromIndexSize_8c36e_18 : decode cJ3_checkFromIndexSize_8c36e 18 = .ok (.iload_n 2, 1) := by decide +kernel
theorem dJ3_checkFromIndexSize_8c36e_19 : decode cJ3_checkFromIndexSize_8c36e 19 = .ok (.invokestatic 103, 3) := by decide +kernel
theorem dJ3_checkFromIndexSize_8c36e_22 : decode cJ3_checkFromIndexSize_8c36e 22 = .ok (.athrow, 1) := by decide +kernel
theorem dJ3_checkFromIndexSize_8c36e_23 : decode cJ3_checkFromIndexSize_8c36e 23 = .ok (.iload_n 0, 1) := by decide +kernel
theorem dJ3_checkFromIndexSize_8c36e_24 : decode cJ3_checkFromIndexSize_8c36e 24 = .ok (.ireturn, 1) := by decide +kernel
theorem dL_tell_0 : decode cL_tell 0 = .ok (.aload_n 2, 1) := by decide +kernel
theorem dL_tell_1 : decode cL_tell 1 = .ok (.iconst 0, 1) := by decide +kernel
theorem dL_tell_2 : decode cL_tell 2 = .ok (.aload_n 0, 1) := by decide +kernel
theorem dL_tell_3 : decode cL_tell 3 = .ok (.iload_n 1, 1) := by decide +kernel
theorem dL_tell_4 : decode cL_tell 4 = .ok (.invokevirtual 7, 3) := by decide +kernel
theorem dL_tell_7 : decode cL_tell 7 = .ok (.i2l, 1) := by decide +kernel
theorem dL_tell_8 : decode cL_tell 8 = .ok (.lastore, 1) := by decide +kernel
theorem dL_tell_9 : decode cL_tell 9 = .ok (.goto 6, 3) := by decide +kernel
theorem dL_tell_12 : decode cL_tell 12 = .ok (.astore_n 3, 1) := by decide +kernel
theorem dL_tell_13 : decode cL_tell 13 = .ok (.iconst 1, 1) := by decide +kernel
theorem dL_tell_14 : decode cL_tell 14 = .ok (.ireturn, 1) := by decide +kernel
theorem dL_tell_15 : decode cL_tell 15 = .ok (.iconst 0, 1) := by decide +kernel
theorem dL_tell_16 : decode cL_tell 16 = .ok (.ireturn, 1) := by decide +kernel
theorem dL_law_0 : decode cL_law 0 = .ok (.new 8, 3) := by decide +kernel
theorem dL_law_3 : decode cL_law 3 = .ok (.dup, 1) := by decide +kernel
theorem dL_law_4 : decode cL_law 4 = .ok (.invokespecial 15, 3) := by decide +kernel
theorem dL_law_7 : decode cL_law 7 = .ok (.astore_n 1, 1) := by decide +kernel
theorem dL_law_8 : decode cL_law 8 = .ok (.new 16, 3) := by decide +kernel
theorem dL_law_11 : decode cL_law 11 = .ok (.dup, 1) := by decide +kernel
theorem dL_law_12 : decode cL_law 12 = .ok (.invokespecial 18, 3) := by decide +kernel
theorem dL_law_15 : decode cL_law 15 = .ok (.astore_n 2, 1) := by decide +kernel
theorem dL_law_16 : decode cL_law 16 = .ok (.iconst 1, 1) := by decide +kernel
theorem dL_law_17 : decode cL_law 17 = .ok (.newarray .long, 2) := by decide +kernel
theorem dL_law_19 : decode cL_law 19 = .ok (.astore_n 3, 1) := by decide +kernel
theorem dL_law_20 : decode cL_law 20 = .ok (.iconst 0, 1) := by decide +kernel
theorem dL_law_21 : decode cL_law 21 = .ok (.istore 4, 2) := by decide +kernel
theorem dL_law_23 : decode cL_law 23 = .ok (.iload 4, 2) := by decide +kernel
theorem dL_law_25 : decode cL_law 25 = .ok (.aload_n 0, 1) := by decide +kernel
theorem dL_law_26 : decode cL_law 26 = .ok (.arraylength, 1) := by decide +kernel
theorem dL_law_27 : decode cL_law 27 = .ok (.bipush 7, 2) := by decide +kernel
theorem dL_law_29 : decode cL_law 29 = .ok (.isub, 1) := by decide +kernel
theorem dL_law_30 : decode cL_law 30 = .ok (.if_icmp .gt 451, 3) := by decide +kernel
theorem dL_law_33 : decode cL_law 33 = .ok (.aload_n 0, 1) := by decide +kernel
theorem dL_law_34 : decode cL_law 34 = .ok (.iload 4, 2) := by decide +kernel
theorem dL_law_36 : decode cL_law 36 = .ok (.iaload, 1) := by decide +kernel
theorem dL_law_37 : decode cL_law 37 = .ok (.bipush 15, 2) := by decide +kernel
theorem dL_law_39 : decode cL_law 39 = .ok (.iand, 1) := by decide +kernel
theorem dL_law_40 : decode cL_law 40 = .ok (.tableswitch 435 0 8 #[52, 77, 142, 229, 278, 303, 328, 384, 409], 52) := by decide +kernel
theorem dL_law_92 : decode cL_law 92 = .ok (.aload_n 1, 1) := by decide +kernel
theorem dL_law_93 : decode cL_law 93 = .ok (.aload_n 0, 1) := by decide +kernel
theorem dL_law_94 : decode cL_law 94 = .ok (.iload 4, 2) := by decide +kernel
theorem dL_law_96 : decode cL_law 96 = .ok (.iconst 1, 1) := by decide +kernel
theorem dL_law_97 : decode cL_law 97 = .ok (.iadd, 1) := by decide +kernel
theorem dL_law_98 : decode cL_law 98 = .ok (.iaload, 1) := by decide +kernel
theorem dL_law_99 : decode cL_law 99 = .ok (.invokevirtual 19, 3) := by decide +kernel
theorem dL_law_102 : decode cL_law 102 = .ok (.aload_n 2, 1) := by decide +kernel
theorem dL_law_103 : decode cL_law 103 = .ok (.aload_n 0, 1) := by decide +kernel
theorem dL_law_104 : decode cL_law 104 = .ok (.iload 4, 2) := by decide +kernel
theorem dL_law_106 : decode cL_law 106 = .ok (.iconst 1, 1) := by decide +kernel
theorem dL_law_107 : decode cL_law 107 = .ok (.iadd, 1) := by decide +kernel
theorem dL_law_108 : decode cL_law 108 = .ok (.iaload, 1) := by decide +kernel
theorem dL_law_109 : decode cL_law 109 = .ok (.invokevirtual 23, 3) := by decide +kernel
theorem dL_law_112 : decode cL_law 112 = .ok (.if_icmp .eq 363, 3) := by decide +kernel
theorem dL_law_115 : decode cL_law 115 = .ok (.iconst 0, 1) := by decide +kernel
theorem dL_law_116 : decode cL_law 116 = .ok (.ireturn, 1) := by decide +kernel
theorem dL_law_117 : decode cL_law 117 = .ok (.aload_n 1, 1) := by decide +kernel
theorem dL_law_118 : decode cL_law 118 = .ok (.aload_n 0, 1) := by decide +kernel
theorem dL_law_119 : decode cL_law 119 = .ok (.iload 4, 2) := by decide +kernel
theorem dL_law_121 : decode cL_law 121 = .ok (.iconst 1, 1) := by decide +kernel
theorem dL_law_122 : decode cL_law 122 = .ok (.iadd, 1) := by decide +kernel
theorem dL_law_123 : decode cL_law 123 = .ok (.iaload, 1) := by decide +kernel
theorem dL_law_124 : decode cL_law 124 = .ok (.ifCond .eq 7, 3) := by decide +kernel
theorem dL_law_127 : decode cL_law 127 = .ok (.iconst 1, 1) := by decide +kernel
theorem dL_law_128 : decode cL_law 128 = .ok (.goto 4, 3) := by decide +kernel
theorem dL_law_131 : decode cL_law 131 = .ok (.iconst 0, 1) := by decide +kernel
theorem dL_law_132 : decode cL_law 132 = .ok (.aload_n 0, 1) := by decide +kernel
theorem dL_law_133 : decode cL_law 133 = .ok (.iload 4, 2) := by decide +kernel
theorem dL_law_135 : decode cL_law 135 = .ok (.iconst 2, 1) := by decide +kernel
theorem dL_law_136 : decode cL_law 136 = .ok (.iadd, 1) := by decide +kernel
theorem dL_law_137 : decode cL_law 137 = .ok (.iaload, 1) := by decide +kernel
theorem dL_law_138 : decode cL_law 138 = .ok (.aload_n 0, 1) := by decide +kernel
theorem dL_law_139 : decode cL_law 139 = .ok (.iload 4, 2) := by decide +kernel
theorem dL_law_141 : decode cL_law 141 = .ok (.iconst 3, 1) := by decide +kernel
theorem dL_law_142 : decode cL_law 142 = .ok (.iadd, 1) := by decide +kernel
theorem dL_law_143 : decode cL_law 143 = .ok (.iaload, 1) := by decide +kernel
theorem dL_law_144 : decode cL_law 144 = .ok (.invokevirtual 24, 3) := by decide +kernel
theorem dL_law_147 : decode cL_law 147 = .ok (.aload_n 2, 1) := by decide +kernel
theorem dL_law_148 : decode cL_law 148 = .ok (.aload_n 0, 1) := by decide +kernel
theorem dL_law_149 : decode cL_law 149 = .ok (.iload 4, 2) := by decide +kernel
theorem dL_law_151 : decode cL_law 151 = .ok (.iconst 1, 1) := by decide +kernel
theorem dL_law_152 : decode cL_law 152 = .ok (.iadd, 1) := by decide +kernel
theorem dL_law_153 : decode cL_law 153 = .ok (.iaload, 1) := by decide +kernel
theorem dL_law_154 : decode cL_law 154 = .ok (.ifCond .eq 7, 3) := by decide +kernel
theorem dL_law_157 : decode cL_law 157 = .ok (.iconst 1, 1) := by decide +kernel
theorem dL_law_158 : decode cL_law 158 = .ok (.goto 4, 3) := by decide +kernel
theorem dL_law_161 : decode cL_law 161 = .ok (.iconst 0, 1) := by decide +kernel
theorem dL_law_162 : decode cL_law 162 = .ok (.aload_n 0, 1) := by decide +kernel
theorem dL_law_163 : decode cL_law 163 = .ok (.iload 4, 2) := by decide +kernel
theorem dL_law_165 : decode cL_law 165 = .ok (.iconst 2, 1) := by decide +kernel
theorem dL_law_166 : decode cL_law 166 = .ok (.iadd, 1) := by decide +kernel
theorem dL_law_167 : decode cL_law 167 = .ok (.iaload, 1) := by decide +kernel
theorem dL_law_168 : decode cL_law 168 = .ok (.aload_n 0, 1) := by decide +kernel
theorem dL_law_169 : decode cL_law 169 = .ok (.iload 4, 2) := by decide +kernel
theorem dL_law_171 : decode cL_law 171 = .ok (.iconst 3, 1) := by decide +kernel
theorem dL_law_172 : decode cL_law 172 = .ok (.iadd, 1) := by decide +kernel
theorem dL_law_173 : decode cL_law 173 = .ok (.iaload, 1) := by decide +kernel
theorem dL_law_174 : decode cL_law 174 = .ok (.invokevirtual 28, 3) := by decide +kernel
theorem dL_law_177 : decode cL_law 177 = .ok (.if_icmp .eq 298, 3) := by decide +kernel
theorem dL_law_180 : decode cL_law 180 = .ok (.iconst 0, 1) := by decide +kernel
theorem dL_law_181 : decode cL_law 181 = .ok (.ireturn, 1) := by decide +kernel
theorem dL_law_182 : decode cL_law 182 = .ok (.aload_n 1, 1) := by decide +kernel
theorem dL_law_183 : decode cL_law 183 = .ok (.aload_n 0, 1) := by decide +kernel
theorem dL_law_184 : decode cL_law 184 = .ok (.iload 4, 2) := by decide +kernel
theorem dL_law_186 : decode cL_law 186 = .ok (.iconst 1, 1) := by decide +kernel
theorem dL_law_187 : decode cL_law 187 = .ok (.iadd, 1) := by decide +kernel
theorem dL_law_188 : decode cL_law 188 = .ok (.iaload, 1) := by decide +kernel
theorem dL_law_189 : decode cL_law 189 = .ok (.aload_n 0, 1) := by decide +kernel
theorem dL_law_190 : decode cL_law 190 = .ok (.iload 4, 2) := by decide +kernel
theorem dL_law_192 : decode cL_law 192 = .ok (.iconst 2, 1) := by decide +kernel
theorem dL_law_193 : decode cL_law 193 = .ok (.iadd, 1) := by decide +kernel
theorem dL_law_194 : decode cL_law 194 = .ok (.iaload, 1) := by decide +kernel
theorem dL_law_195 : decode cL_law 195 = .ok (.aload_n 0, 1) := by decide +kernel
theorem dL_law_196 : decode cL_law 196 = .ok (.iload 4, 2) := by decide +kernel
theorem dL_law_198 : decode cL_law 198 = .ok (.iconst 3, 1) := by decide +kernel
theorem dL_law_199 : decode cL_law 199 = .ok (.iadd, 1) := by decide +kernel
theorem dL_law_200 : decode cL_law 200 = .ok (.iaload, 1) := by decide +kernel
theorem dL_law_201 : decode cL_law 201 = .ok (.aload_n 0, 1) := by decide +kernel
theorem dL_law_202 : decode cL_law 202 = .ok (.iload 4, 2) := by decide +kernel
theorem dL_law_204 : decode cL_law 204 = .ok (.iconst 4, 1) := by decide +kernel
theorem dL_law_205 : decode cL_law 205 = .ok (.iadd, 1) := by decide +kernel
theorem dL_law_206 : decode cL_law 206 = .ok (.iaload, 1) := by decide +kernel
theorem dL_law_207 : decode cL_law 207 = .ok (.aload_n 0, 1) := by decide +kernel
theorem dL_law_208 : decode cL_law 208 = .ok (.iload 4, 2) := by decide +kernel
theorem dL_law_210 : decode cL_law 210 = .ok (.iconst 5, 1) := by decide +kernel
theorem dL_law_211 : decode cL_law 211 = .ok (.iadd, 1) := by decide +kernel
theorem dL_law_212 : decode cL_law 212 = .ok (.iaload, 1) := by decide +kernel
theorem dL_law_213 : decode cL_law 213 = .ok (.aload_n 0, 1) := by decide +kernel
theorem dL_law_214 : decode cL_law 214 = .ok (.iload 4, 2) := by decide +kernel
theorem dL_law_216 : decode cL_law 216 = .ok (.bipush 6, 2) := by decide +kernel
theorem dL_law_218 : decode cL_law 218 = .ok (.iadd, 1) := by decide +kernel
theorem dL_law_219 : decode cL_law 219 = .ok (.iaload, 1) := by decide +kernel
theorem dL_law_220 : decode cL_law 220 = .ok (.invokevirtual 29, 3) := by decide +kernel
theorem dL_law_223 : decode cL_law 223 = .ok (.aload_n 2, 1) := by decide +kernel
theorem dL_law_224 : decode cL_law 224 = .ok (.aload_n 0, 1) := by decide +kernel
theorem dL_law_225 : decode cL_law 225 = .ok (.iload 4, 2) := by decide +kernel
theorem dL_law_227 : decode cL_law 227 = .ok (.iconst 1, 1) := by decide +kernel
theorem dL_law_228 : decode cL_law 228 = .ok (.iadd, 1) := by decide +kernel
theorem dL_law_229 : decode cL_law 229 = .ok (.iaload, 1) := by decide +kernel
theorem dL_law_230 : decode cL_law 230 = .ok (.aload_n 0, 1) := by decide +kernel
theorem dL_law_231 : decode cL_law 231 = .ok (.iload 4, 2) := by decide +kernel
theorem dL_law_233 : decode cL_law 233 = .ok (.iconst 2, 1) := by decide +kernel
theorem dL_law_234 : decode cL_law 234 = .ok (.iadd, 1) := by decide +kernel
theorem dL_law_235 : decode cL_law 235 = .ok (.iaload, 1) := by decide +kernel
theorem dL_law_236 : decode cL_law 236 = .ok (.aload_n 0, 1) := by decide +kernel
theorem dL_law_237 : decode cL_law 237 = .ok (.iload 4, 2) := by decide +kernel
theorem dL_law_239 : decode cL_law 239 = .ok (.iconst 3, 1) := by decide +kernel
theorem dL_law_240 : decode cL_law 240 = .ok (.iadd, 1) := by decide +kernel
theorem dL_law_241 : decode cL_law 241 = .ok (.iaload, 1) := by decide +kernel
theorem dL_law_242 : decode cL_law 242 = .ok (.aload_n 0, 1) := by decide +kernel
theorem dL_law_243 : decode cL_law 243 = .ok (.iload 4, 2) := by decide +kernel
theorem dL_law_245 : decode cL_law 245 = .ok (.iconst 4, 1) := by decide +kernel
theorem dL_law_246 : decode cL_law 246 = .ok (.iadd, 1) := by decide +kernel
theorem dL_law_247 : decode cL_law 247 = .ok (.iaload, 1) := by decide +kernel
theorem dL_law_248 : decode cL_law 248 = .ok (.aload_n 0, 1) := by decide +kernel
theorem dL_law_249 : decode cL_law 249 = .ok (.iload 4, 2) := by decide +kernel
theorem dL_law_251 : decode cL_law 251 = .ok (.iconst 5, 1) := by decide +kernel
theorem dL_law_252 : decode cL_law 252 = .ok (.iadd, 1) := by decide +kernel
theorem dL_law_253 : decode cL_law 253 = .ok (.iaload, 1) := by decide +kernel
theorem dL_law_254 : decode cL_law 254 = .ok (.aload_n 0, 1) := by decide +kernel
theorem dL_law_255 : decode cL_law 255 = .ok (.iload 4, 2) := by decide +kernel
theorem dL_law_257 : decode cL_law 257 = .ok (.bipush 6, 2) := by decide +kernel
theorem dL_law_259 : decode cL_law 259 = .ok (.iadd, 1) := by decide +kernel
theorem dL_law_260 : decode cL_law 260 = .ok (.iaload, 1) := by decide +kernel
theorem dL_law_261 : decode cL_law 261 = .ok (.invokevirtual 33, 3) := by decide +kernel
theorem dL_law_264 : decode cL_law 264 = .ok (.if_icmp .eq 211, 3) := by decide +kernel
theorem dL_law_267 : decode cL_law 267 = .ok (.iconst 0, 1) := by decide +kernel
theorem dL_law_268 : decode cL_law 268 = .ok (.ireturn, 1) := by decide +kernel
theorem dL_law_269 : decode cL_law 269 = .ok (.aload_n 1, 1) := by decide +kernel
theorem dL_law_270 : decode cL_law 270 = .ok (.aload_n 0, 1) := by decide +kernel
theorem dL_law_271 : decode cL_law 271 = .ok (.iload 4, 2) := by decide +kernel
theorem dL_law_273 : decode cL_law 273 = .ok (.iconst 1, 1) := by decide +kernel
theorem dL_law_274 : decode cL_law 274 = .ok (.iadd, 1) := by decide +kernel
theorem dL_law_275 : decode cL_law 275 = .ok (.iaload, 1) := by decide +kernel
theorem dL_law_276 : decode cL_law 276 = .ok (.aload_n 0, 1) := by decide +kernel
theorem dL_law_277 : decode cL_law 277 = .ok (.iload 4, 2) := by decide +kernel
theorem dL_law_279 : decode cL_law 279 = .ok (.iconst 2, 1) := by decide +kernel
theorem dL_law_280 : decode cL_law 280 = .ok (.iadd, 1) := by decide +kernel
theorem dL_law_281 : decode cL_law 281 = .ok (.iaload, 1) := by decide +kernel
theorem dL_law_282 : decode cL_law 282 = .ok (.aload_n 0, 1) := by decide +kernel
theorem dL_law_283 : decode cL_law 283 = .ok (.iload 4, 2) := by decide +kernel
theorem dL_law_285 : decode cL_law 285 = .ok (.iconst 3, 1) := by decide +kernel
theorem dL_law_286 : decode cL_law 286 = .ok (.iadd, 1) := by decide +kernel
theorem dL_law_287 : decode cL_law 287 = .ok (.iaload, 1) := by decide +kernel
theorem dL_law_288 : decode cL_law 288 = .ok (.invokevirtual 34, 3) := by decide +kernel
theorem dL_law_291 : decode cL_law 291 = .ok (.aload_n 2, 1) := by decide +kernel
theorem dL_law_292 : decode cL_law 292 = .ok (.aload_n 0, 1) := by decide +kernel
theorem dL_law_293 : decode cL_law 293 = .ok (.iload 4, 2) := by decide +kernel
theorem dL_law_295 : decode cL_law 295 = .ok (.iconst 1, 1) := by decide +kernel
theorem dL_law_296 : decode cL_law 296 = .ok (.iadd, 1) := by decide +kernel
theorem dL_law_297 : decode cL_law 297 = .ok (.iaload, 1) := by decide +kernel
theorem dL_law_298 : decode cL_law 298 = .ok (.aload_n 0, 1) := by decide +kernel
theorem dL_law_299 : decode cL_law 299 = .ok (.iload 4, 2) := by decide +kernel
theorem dL_law_301 : decode cL_law 301 = .ok (.iconst 2, 1) := by decide +kernel
theorem dL_law_302 : decode cL_law 302 = .ok (.iadd, 1) := by decide +kernel
theorem dL_law_303 : decode cL_law 303 = .ok (.iaload, 1) := by decide +kernel
theorem dL_law_304 : decode cL_law 304 = .ok (.aload_n 0, 1) := by decide +kernel
theorem dL_law_305 : decode cL_law 305 = .ok (.iload 4, 2) := by decide +kernel
theorem dL_law_307 : decode cL_law 307 = .ok (.iconst 3, 1) := by decide +kernel
theorem dL_law_308 : decode cL_law 308 = .ok (.iadd, 1) := by decide +kernel
theorem dL_law_309 : decode cL_law 309 = .ok (.iaload, 1) := by decide +kernel
theorem dL_law_310 : decode cL_law 310 = .ok (.invokevirtual 38, 3) := by decide +kernel
theorem dL_law_313 : decode cL_law 313 = .ok (.if_icmp .eq 162, 3) := by decide +kernel
theorem dL_law_316 : decode cL_law 316 = .ok (.iconst 0, 1) := by decide +kernel
theorem dL_law_317 : decode cL_law 317 = .ok (.ireturn, 1) := by decide +kernel
theorem dL_law_318 : decode cL_law 318 = .ok (.aload_n 1, 1) := by decide +kernel
theorem dL_law_319 : decode cL_law 319 = .ok (.aload_n 0, 1) := by decide +kernel
theorem dL_law_320 : decode cL_law 320 = .ok (.iload 4, 2) := by decide +kernel
theorem dL_law_322 : decode cL_law 322 = .ok (.iconst 1, 1) := by decide +kernel
theorem dL_law_323 : decode cL_law 323 = .ok (.iadd, 1) := by decide +kernel
theorem dL_law_324 : decode cL_law 324 = .ok (.iaload, 1) := by decide +kernel
theorem dL_law_325 : decode cL_law 325 = .ok (.invokevirtual 39, 3) := by decide +kernel
theorem dL_law_328 : decode cL_law 328 = .ok (.aload_n 2, 1) := by decide +kernel
theorem dL_law_329 : decode cL_law 329 = .ok (.aload_n 0, 1) := by decide +kernel
theorem dL_law_330 : decode cL_law 330 = .ok (.iload 4, 2) := by decide +kernel
theorem dL_law_332 : decode cL_law 332 = .ok (.iconst 1, 1) := by decide +kernel
theorem dL_law_333 : decode cL_law 333 = .ok (.iadd, 1) := by decide +kernel
theorem dL_law_334 : decode cL_law 334 = .ok (.iaload, 1) := by decide +kernel
theorem dL_law_335 : decode cL_law 335 = .ok (.invokevirtual 42, 3) := by decide +kernel
theorem dL_law_338 : decode cL_law 338 = .ok (.if_icmp .eq 137, 3) := by decide +kernel
theorem dL_law_341 : decode cL_law 341 = .ok (.iconst 0, 1) := by decide +kernel
theorem dL_law_342 : decode cL_law 342 = .ok (.ireturn, 1) := by decide +kernel
theorem dL_law_343 : decode cL_law 343 = .ok (.aload_n 1, 1) := by decide +kernel
theorem dL_law_344 : decode cL_law 344 = .ok (.aload_n 0, 1) := by decide +kernel
theorem dL_law_345 : decode cL_law 345 = .ok (.iload 4, 2) := by decide +kernel
theorem dL_law_347 : decode cL_law 347 = .ok (.iconst 1, 1) := by decide +kernel
theorem dL_law_348 : decode cL_law 348 = .ok (.iadd, 1) := by decide +kernel
theorem dL_law_349 : decode cL_law 349 = .ok (.iaload, 1) := by decide +kernel
theorem dL_law_350 : decode cL_law 350 = .ok (.invokevirtual 43, 3) := by decide +kernel
theorem dL_law_353 : decode cL_law 353 = .ok (.aload_n 2, 1) := by decide +kernel
theorem dL_law_354 : decode cL_law 354 = .ok (.aload_n 0, 1) := by decide +kernel
theorem dL_law_355 : decode cL_law 355 = .ok (.iload 4, 2) := by decide +kernel
theorem dL_law_357 : decode cL_law 357 = .ok (.iconst 1, 1) := by decide +kernel
theorem dL_law_358 : decode cL_law 358 = .ok (.iadd, 1) := by decide +kernel
theorem dL_law_359 : decode cL_law 359 = .ok (.iaload, 1) := by decide +kernel
theorem dL_law_360 : decode cL_law 360 = .ok (.invokevirtual 46, 3) := by decide +kernel
theorem dL_law_363 : decode cL_law 363 = .ok (.if_icmp .eq 112, 3) := by decide +kernel
theorem dL_law_366 : decode cL_law 366 = .ok (.iconst 0, 1) := by decide +kernel
theorem dL_law_367 : decode cL_law 367 = .ok (.ireturn, 1) := by decide +kernel
theorem dL_law_368 : decode cL_law 368 = .ok (.aload_n 1, 1) := by decide +kernel
theorem dL_law_369 : decode cL_law 369 = .ok (.aload_n 0, 1) := by decide +kernel
theorem dL_law_370 : decode cL_law 370 = .ok (.iload 4, 2) := by decide +kernel
theorem dL_law_372 : decode cL_law 372 = .ok (.iconst 1, 1) := by decide +kernel
theorem dL_law_373 : decode cL_law 373 = .ok (.iadd, 1) := by decide +kernel
theorem dL_law_374 : decode cL_law 374 = .ok (.iaload, 1) := by decide +kernel
theorem dL_law_375 : decode cL_law 375 = .ok (.aload_n 3, 1) := by decide +kernel
end
section
theorem dL_law_376 : decode cL_law 376 = .ok (.invokestatic 47, 3) := by decide +kernel
theorem dL_law_379 : decode cL_law 379 = .ok (.istore 5, 2) := by decide +kernel
theorem dL_law_381 : decode cL_law 381 = .ok (.aload_n 2, 1) := by decide +kernel
theorem dL_law_382 : decode cL_law 382 = .ok (.aload_n 0, 1) := by decide +kernel
theorem dL_law_383 : decode cL_law 383 = .ok (.iload 4, 2) := by decide +kernel
theorem dL_law_385 : decode cL_law 385 = .ok (.iconst 1, 1) := by decide +kernel
theorem dL_law_386 : decode cL_law 386 = .ok (.iadd, 1) := by decide +kernel
theorem dL_law_387 : decode cL_law 387 = .ok (.iaload, 1) := by decide +kernel
theorem dL_law_388 : decode cL_law 388 = .ok (.invokevirtual 52, 3) := by decide +kernel
theorem dL_law_391 : decode cL_law 391 = .ok (.istore 6, 2) := by decide +kernel
theorem dL_law_393 : decode cL_law 393 = .ok (.aload_n 2, 1) := by decide +kernel
theorem dL_law_394 : decode cL_law 394 = .ok (.invokevirtual 53, 3) := by decide +kernel
theorem dL_law_397 : decode cL_law 397 = .ok (.iload 5, 2) := by decide +kernel
theorem dL_law_399 : decode cL_law 399 = .ok (.if_icmp .eq 5, 3) := by decide +kernel
theorem dL_law_402 : decode cL_law 402 = .ok (.iconst 0, 1) := by decide +kernel
theorem dL_law_403 : decode cL_law 403 = .ok (.ireturn, 1) := by decide +kernel
theorem dL_law_404 : decode cL_law 404 = .ok (.iload 5, 2) := by decide +kernel
theorem dL_law_406 : decode cL_law 406 = .ok (.ifCond .ne 15, 3) := by decide +kernel
theorem dL_law_409 : decode cL_law 409 = .ok (.aload_n 3, 1) := by decide +kernel
theorem dL_law_410 : decode cL_law 410 = .ok (.iconst 0, 1) := by decide +kernel
theorem dL_law_411 : decode cL_law 411 = .ok (.laload, 1) := by decide +kernel
theorem dL_law_412 : decode cL_law 412 = .ok (.iload 6, 2) := by decide +kernel
theorem dL_law_414 : decode cL_law 414 = .ok (.i2l, 1) := by decide +kernel
theorem dL_law_415 : decode cL_law 415 = .ok (.lcmp, 1) := by decide +kernel
theorem dL_law_416 : decode cL_law 416 = .ok (.ifCond .eq 5, 3) := by decide +kernel
theorem dL_law_419 : decode cL_law 419 = .ok (.iconst 0, 1) := by decide +kernel
theorem dL_law_420 : decode cL_law 420 = .ok (.ireturn, 1) := by decide +kernel
theorem dL_law_421 : decode cL_law 421 = .ok (.goto 54, 3) := by decide +kernel
theorem dL_law_424 : decode cL_law 424 = .ok (.aload_n 1, 1) := by decide +kernel
theorem dL_law_425 : decode cL_law 425 = .ok (.aload_n 0, 1) := by decide +kernel
theorem dL_law_426 : decode cL_law 426 = .ok (.iload 4, 2) := by decide +kernel
theorem dL_law_428 : decode cL_law 428 = .ok (.iconst 1, 1) := by decide +kernel
theorem dL_law_429 : decode cL_law 429 = .ok (.iadd, 1) := by decide +kernel
theorem dL_law_430 : decode cL_law 430 = .ok (.iaload, 1) := by decide +kernel
theorem dL_law_431 : decode cL_law 431 = .ok (.invokevirtual 57, 3) := by decide +kernel
theorem dL_law_434 : decode cL_law 434 = .ok (.aload_n 2, 1) := by decide +kernel
theorem dL_law_435 : decode cL_law 435 = .ok (.aload_n 0, 1) := by decide +kernel
theorem dL_law_436 : decode cL_law 436 = .ok (.iload 4, 2) := by decide +kernel
theorem dL_law_438 : decode cL_law 438 = .ok (.iconst 1, 1) := by decide +kernel
theorem dL_law_439 : decode cL_law 439 = .ok (.iadd, 1) := by decide +kernel
theorem dL_law_440 : decode cL_law 440 = .ok (.iaload, 1) := by decide +kernel
theorem dL_law_441 : decode cL_law 441 = .ok (.invokevirtual 60, 3) := by decide +kernel
theorem dL_law_444 : decode cL_law 444 = .ok (.if_icmp .eq 31, 3) := by decide +kernel
theorem dL_law_447 : decode cL_law 447 = .ok (.iconst 0, 1) := by decide +kernel
theorem dL_law_448 : decode cL_law 448 = .ok (.ireturn, 1) := by decide +kernel
theorem dL_law_449 : decode cL_law 449 = .ok (.aload_n 1, 1) := by decide +kernel
theorem dL_law_450 : decode cL_law 450 = .ok (.aload_n 0, 1) := by decide +kernel
theorem dL_law_451 : decode cL_law 451 = .ok (.iload 4, 2) := by decide +kernel
theorem dL_law_453 : decode cL_law 453 = .ok (.iconst 1, 1) := by decide +kernel
theorem dL_law_454 : decode cL_law 454 = .ok (.iadd, 1) := by decide +kernel
theorem dL_law_455 : decode cL_law 455 = .ok (.iaload, 1) := by decide +kernel
theorem dL_law_456 : decode cL_law 456 = .ok (.invokevirtual 61, 3) := by decide +kernel
theorem dL_law_459 : decode cL_law 459 = .ok (.aload_n 2, 1) := by decide +kernel
theorem dL_law_460 : decode cL_law 460 = .ok (.aload_n 0, 1) := by decide +kernel
theorem dL_law_461 : decode cL_law 461 = .ok (.iload 4, 2) := by decide +kernel
theorem dL_law_463 : decode cL_law 463 = .ok (.iconst 1, 1) := by decide +kernel
theorem dL_law_464 : decode cL_law 464 = .ok (.iadd, 1) := by decide +kernel
theorem dL_law_465 : decode cL_law 465 = .ok (.iaload, 1) := by decide +kernel
theorem dL_law_466 : decode cL_law 466 = .ok (.invokevirtual 65, 3) := by decide +kernel
theorem dL_law_469 : decode cL_law 469 = .ok (.lcmp, 1) := by decide +kernel
theorem dL_law_470 : decode cL_law 470 = .ok (.ifCond .eq 5, 3) := by decide +kernel
theorem dL_law_473 : decode cL_law 473 = .ok (.iconst 0, 1) := by decide +kernel
theorem dL_law_474 : decode cL_law 474 = .ok (.ireturn, 1) := by decide +kernel
theorem dL_law_475 : decode cL_law 475 = .ok (.iinc 4 7, 3) := by decide +kernel
theorem dL_law_478 : decode cL_law 478 = .ok (.goto (-455), 3) := by decide +kernel
theorem dL_law_481 : decode cL_law 481 = .ok (.iconst 1, 1) := by decide +kernel
theorem dL_law_482 : decode cL_law 482 = .ok (.ireturn, 1) := by decide +kernel
end
section
/-! The memory as a pure picture: kinds, fields by class and slot, arrays; how a heap holds it; one row an instruction over it. -/
abbrev Mem : Type := (Nat → Nat) × (Nat → Nat → Nat → Int32) × (Nat → Nat → Nat → Option Nat) × (Nat → Nat) × (Nat → Nat → Int32) × (Nat → Nat → Int64) × (Nat → Nat → Option Nat)
def kd (μ : Mem) : Nat → Nat := μ.1
def fi (μ : Mem) : Nat → Nat → Nat → Int32 := μ.2.1
def fr (μ : Mem) : Nat → Nat → Nat → Option Nat := μ.2.2.1
def al (μ : Mem) : Nat → Nat := μ.2.2.2.1
def ai (μ : Mem) : Nat → Nat → Int32 := μ.2.2.2.2.1
def aj (μ : Mem) : Nat → Nat → Int64 := μ.2.2.2.2.2.1
def ar (μ : Mem) : Nat → Nat → Option Nat := μ.2.2.2.2.2.2
def up3 {α : Type} (f : Nat → Nat → Nat → α) (c k a : Nat) (v : α) : Nat → Nat → Nat → α := fun c' k' a' => if c' = c ∧ k' = k ∧ a' = a then v else f c' k' a'
def up2 {α : Type} (f : Nat → Nat → α) (a i : Nat) (v : α) : Nat → Nat → α := fun a' i' => if a' = a ∧ i' = i then v else f a' i'
def sfi (μ : Mem) (c k a : Nat) (v : Int32) : Mem := (kd μ, up3 (fi μ) c k a v, fr μ, al μ, ai μ, aj μ, ar μ)
def sfr (μ : Mem) (c k a : Nat) (v : Option Nat) : Mem := (kd μ, fi μ, up3 (fr μ) c k a v, al μ, ai μ, aj μ, ar μ)
def sai (μ : Mem) (a i : Nat) (v : Int32) : Mem := (kd μ, fi μ, fr μ, al μ, up2 (ai μ) a i v, aj μ, ar μ)
def saj (μ : Mem) (a i : Nat) (v : Int64) : Mem := (kd μ, fi μ, fr μ, al μ, ai μ, up2 (aj μ) a i v, ar μ)
def sar (μ : Mem) (a i : Nat) (v : Option Nat) : Mem := (kd μ, fi μ, fr μ, al μ, ai μ, aj μ, up2 (ar μ) a i v)
/-- a new object of class c, a new array of kind t and n places, at a -/
def nob (μ : Mem) (c a : Nat) : Mem := (va_up (kd μ) a (c + 1), fun c' k' a' => if c' = c ∧ a' = a then 0 else fi μ c' k' a', fun c' k' a' => if c' = c ∧ a' = a then none else fr μ c' k' a', al μ, ai μ, aj μ, ar μ)
def nar (μ : Mem) (t a n : Nat) : Mem := (va_up (kd μ) a t, fi μ, fr μ, va_up (al μ) a n, fun a' i' => if a' = a then 0 else ai μ a' i', fun a' i' => if a' = a then 0 else aj μ a' i', fun a' i' => if a' = a then none else ar μ a' i')
/-- which fields of a class are references -/
def sg : Nat → List Bool := fun c => match c with
  | 0 => [true, false, false, false]
  | 1 => [false, true, false]
  | 2 => [true, true, false, false, false, true, false]
  | 3 => [false, true, false, true, true, false, false]
  | 4 => [true, true, false, false]
  | 5 => [false, false, false, false, false, true, true]
  | 6 => [true, false]
  | 7 => [false, false, false, true, true]
  | 8 => [true, false, false, false, false, false, false]
  | 9 => [true, false, true, false, true, true, false, false]
  | 10 => [true, true]
  | 11 => [true, false, true, false, true, true]
  | 12 => [false, true, false, false, true, true, true, true, true, true, true, false, true, true, true, true, true, true, true, false, true, true, true, true, false, false, false, true, true, true, true, true, true, true, true, true, true, true, true, true, false, false, true, true, false, false, false, false, false, false, false, false, false, true, false, true, true, true, false]
  | _ => []
/-- where the tables have the classes, the slots, the five array classes (byte, int, long, boolean, Object) and the static arrays -/
abbrev Tb : Type := va_G × ClassId × ClassId × ClassId × ClassId × ClassId × (Nat → Nat)
def fls (μ : Mem) (c a : Nat) : List Value := (sg c).zipIdx.map (fun q => if q.1 = true then va_rf (fr μ c q.2 a) else .int (fi μ c q.2 a))
def en (T : Tb) (μ : Mem) (a : Nat) : va_E :=
  if kd μ a = 101 then .inl (T.2.1, al μ a, .inl (ai μ a)) else if kd μ a = 102 then .inl (T.2.2.1, al μ a, .inl (ai μ a)) else
  if kd μ a = 103 then .inl (T.2.2.2.1, al μ a, .inr (.inl (aj μ a))) else if kd μ a = 104 then .inl (T.2.2.2.2.1, al μ a, .inl (ai μ a)) else
  if kd μ a = 105 then .inl (T.2.2.2.2.2.1, al μ a, .inr (.inr (.inr (.inr (ar μ a))))) else .inr (kd μ a - 1, fls μ (kd μ a - 1) a)
abbrev tys (T : Tb) : List (ClassId × FieldType) := [(T.2.1, .byte), (T.2.2.1, .int), (T.2.2.2.1, .long), (T.2.2.2.2.1, .boolean), (T.2.2.2.2.2.1, .object "java/lang/Object")]
abbrev Ai (B : Nat) : Nat → Prop := fun q => B ≤ q
/-- the heap holds the memory, from B on -/
def Rs (e0 e1 e2 : Nat) (μ : Mem) : Prop := (∀ a, kd μ a < 109) ∧ (∀ a, kd μ a = 106 → a = e0) ∧ (∀ a, kd μ a = 107 → a = e1) ∧ (∀ a, kd μ a = 108 → a = e2) ∧ kd μ e0 = 106 ∧ kd μ e1 = 107 ∧ kd μ e2 = 108 ∧ al μ e0 = 0 ∧ al μ e1 = 100 ∧ al μ e2 = 100
def Rl (T : Tb) (B : Nat) (μ : Mem) (H : Heap) : Prop := ∃ L : List Nat, (∀ a, a ∈ L ↔ (kd μ a ≠ 0 ∧ kd μ a < 106)) ∧ va_P T.1 vwCl ([] ++ va_pl L (en T μ)) H ∧ va_D (Ai B) ([] ++ va_pl L (en T μ)) ∧ Rs (T.2.2.2.2.2.2 0) (T.2.2.2.2.2.2 1) (T.2.2.2.2.2.2 2) μ
/-- the steady words of the tables, and those that a state carries -/
def G : List Cond := lw_tbl.filter goodWord
def isNw : Cond → Bool
  | .methodLinkNest _ _ _ _ => true
  | .castable _ _ => true
  | .declares _ => true
  | _ => false
def NWl : List Cond := lw_tbl.filter isNw
def KK (T : Tb) (U : State) : Prop := va_K T.1 vwCl (tys T) U ∧ (∀ w ∈ NWl, va_Nw w U) ∧ va_Mi "[Ljava/lang/Object;" (T.2.2.2.2.2.2 3) U ∧ va_AO "java/lang/Object" U
theorem isNw_warm {w : Cond} (h : isNw w = true) {s U : State} (hW : s.WarmedH U.vm) (hz : va_Nw w s) : va_Nw w U := by
  cases w <;> first | exact absurd (show false = true from h) (by decide) | exact va_Nw.warmM hW hz | exact va_Nw.warmC hW hz | exact va_Nw.warmD hW hz
theorem KK.warm {T : Tb} {s U : State} (h : KK T s) (hW : s.WarmedH U.vm) : KK T U := ⟨va_K.moved hW.alike h.1, fun w hw => isNw_warm (List.mem_filter.mp hw).2 hW (h.2.1 w hw), h.2.2.1.moved hW.alike, h.2.2.2.moved hW.alike⟩
theorem KK.alike {T : Tb} {U V : State} (h : KK T U) (hv : U.vm = V.vm) : KK T V := by
  have ha : U.vm.Alike V.vm := by rw [hv]; exact Vm.Alike.refl _
  refine ⟨va_K.moved ha h.1, fun w hw => va_Nw.same ?_ hv (h.2.1 w hw), h.2.2.1.moved ha, h.2.2.2.moved ha⟩
  have := (List.mem_filter.mp hw).2
  cases w <;> first | exact absurd (show false = true from this) (by decide) | rfl
theorem gG {w : Cond} (h : w ∈ G) : GoodIn G (w :: G) := fun v hv => by
  have hm : v ∈ G := by rcases List.mem_cons.mp hv with e | e <;> simp_all
  exact ⟨hm, good_of_word (List.mem_filter.mp hm).2⟩
theorem inG {w : Cond} (i : Nat) (h : lw_tbl[i]? = some w) (hg : goodWord w = true) : w ∈ G := List.mem_filter.mpr ⟨List.mem_of_getElem? h, hg⟩
theorem inN {w : Cond} (i : Nat) (h : lw_tbl[i]? = some w) (hg : isNw w = true) : w ∈ NWl := List.mem_filter.mpr ⟨List.mem_of_getElem? h, hg⟩
/-- statics that nobody writes: what they hold, and the arrays that they name -/
def dTens (i : Nat) : Int32 := nI (48 + i / 10)
def dOnes (i : Nat) : Int32 := nI (48 + i % 10)
abbrev st (T : Tb) : Nat → Nat := T.2.2.2.2.2.2
def SZ (T : Tb) : List (String × String × String × Value) := [("java/lang/String", "COMPACT_STRINGS", "Z", .int 1), ("java/util/ArrayList", "DEFAULTCAPACITY_EMPTY_ELEMENTDATA", "[Ljava/lang/Object;", .ref (st T 0)), ("java/lang/Integer", "DigitTens", "[B", .ref (st T 1)), ("java/lang/Integer", "DigitOnes", "[B", .ref (st T 2))]
def ST (T : Tb) : List (FieldType × Nat × Nat × (Nat → Value)) := [(.object "java/lang/Object", st T 0, 0, fun _ => .null), (.byte, st T 1, 100, fun i => .int (dTens i)), (.byte, st T 2, 100, fun i => .int (dOnes i))]
def SF (T : Tb) (B : Nat) (U : State) (H : Heap) : Prop := (∀ q ∈ SZ T, va_Z q.1 q.2.1 q.2.2.1 q.2.2.2 (Ai B) U H) ∧ ∀ q ∈ ST T, va_T q.1 q.2.1 q.2.2.1 q.2.2.2 (Ai B) U H
theorem SF.out {T : Tb} {B : Nat} {U : State} {H : Heap} (h : SF T B U H) : ¬ Ai B (st T 0) ∧ ¬ Ai B (st T 1) ∧ ¬ Ai B (st T 2) := ⟨(h.2 _ List.mem_cons_self).out, (h.2 _ (List.mem_cons_of_mem _ List.mem_cons_self)).out, (h.2 _ (List.mem_cons_of_mem _ (List.mem_cons_of_mem _ List.mem_cons_self))).out⟩
theorem vaD_last {A : Nat → Prop} {ws : va_W} {q : Nat} {e : va_E} (h : va_D A (ws ++ [(q, e)])) : A q := h.2 ws.length (q, e) (by simp)
theorem Rs.fresh {T : Tb} {B : Nat} {U : State} {H : Heap} {μ : Mem} {L : List Nat} {q : Nat} (h : SF T B U H) (hRs : Rs (T.2.2.2.2.2.2 0) (T.2.2.2.2.2.2 1) (T.2.2.2.2.2.2 2) μ) (hL : ∀ b, b ∈ L ↔ (kd μ b ≠ 0 ∧ kd μ b < 106)) (hq : q ∉ L) (hA : Ai B q) : kd μ q = 0 := by
  have h1 := hRs.1 q
  by_cases h0 : kd μ q = 0
  · exact h0
  · by_cases h6 : kd μ q < 106
    · exact absurd ((hL q).mpr ⟨h0, h6⟩) hq
    · obtain ⟨o0, o1, o2⟩ := h.out
      rcases (show kd μ q = 106 ∨ kd μ q = 107 ∨ kd μ q = 108 by omega) with k | k | k
      · exact absurd (show Ai B (st T 0) by rw [show st T 0 = q from (hRs.2.1 q k).symm]; exact hA) o0
      · exact absurd (show Ai B (st T 1) by rw [show st T 1 = q from (hRs.2.2.1 q k).symm]; exact hA) o1
      · exact absurd (show Ai B (st T 2) by rw [show st T 2 = q from (hRs.2.2.2.1 q k).symm]; exact hA) o2
theorem SF.moved {T : Tb} {B : Nat} {u U : State} {H : Heap} (hvm : u.vm.Alike U.vm) (h : SF T B u H) : SF T B U H := ⟨fun q hq => va_Z.moved hvm (h.1 q hq), fun q hq => va_T.moved hvm (h.2 q hq)⟩
theorem SF.kept {T : Tb} {B : Nat} {U : State} {H H1 : Heap} (h : SF T B U H) (hq : ∀ a : Nat, a < H.size → ¬ Ai B a → H1[a]? = H[a]?) : SF T B U H1 := ⟨fun q hz => va_Z.kept (h.1 q hz) hq, fun q hz => va_T.kept (h.2 q hz) hq⟩
/-- what a walk knows of its method -/
def CX (T : Tb) (B : Nat) (p : Program) (m : MethodId) (c : Code) (cc : ByteArray) (nL : Nat) (s : State) (args : Array Value) (own : String) : Prop :=
  p.tables.exec = Jvm.exec ∧ c.code = cc ∧ c.maxLocals = nL ∧ s.vm.findClass own = some m.cls ∧ (∀ w ∈ G, w.before args s = true) ∧ KK T s ∧ SF T B s s.heap
/-- where a walk stands: the heap holds the world σ, nothing below B has changed -/
def MG {S : Type} (Wd : S → Heap → Prop) (B : Nat) (s : State) (σ : S) (H : Heap) (locs : List Loc) : Prop := Wd σ H ∧ B ≤ s.heap.size ∧ va_S (Ai B) s.heap H locs
abbrev MS (T : Tb) (B : Nat) (s : State) (μ : Mem) (H : Heap) (locs : List Loc) : Prop := MG (Rl T B) B s μ H locs
/-- no cell becomes another's kind -/
def KM (μ0 μ : Mem) : Prop := ∀ a, kd μ0 a ≠ 0 → kd μ a = kd μ0 a
theorem KM.rf (μ : Mem) : KM μ μ := fun _ _ => rfl
theorem KM.tr {μ0 μ1 μ2 : Mem} (h : KM μ0 μ1) (k : KM μ1 μ2) : KM μ0 μ2 := fun a ha => by rw [k a (by rw [h a ha]; exact ha), h a ha]
theorem KM.at {μ0 μ : Mem} (h : KM μ0 μ) {a t : Nat} (ha : kd μ0 a = t + 1) : kd μ a = t + 1 := by rw [h a (by omega), ha]
theorem KM_nob {μ : Mem} {c q : Nat} (hq : kd μ q = 0) : KM μ (nob μ c q) := fun a ha => by
  have : a ≠ q := fun h => ha (h ▸ hq)
  simp [kd, nob, va_up, this]
theorem KM_nar {μ : Mem} {t q n : Nat} (hq : kd μ q = 0) : KM μ (nar μ t q n) := fun a ha => by
  have : a ≠ q := fun h => ha (h ▸ hq)
  simp [kd, nar, va_up, this]
theorem fls_get {μ : Mem} {c a k : Nat} {b : Bool} (h : (sg c)[k]? = some b) : (fls μ c a)[k]? = some (if b = true then va_rf (fr μ c k a) else .int (fi μ c k a)) := by
  simp [fls, List.getElem?_map, List.getElem?_zipIdx, h]
theorem fls_len {μ : Mem} {c a : Nat} : (fls μ c a).length = (sg c).length := by simp [fls]
theorem en_o {T : Tb} {μ : Mem} {a c : Nat} (h : kd μ a = c + 1) (hc : c < 100) : en T μ a = .inr (c, fls μ c a) := by
  unfold en
  rw [h, if_neg (by omega), if_neg (by omega), if_neg (by omega), if_neg (by omega), if_neg (by omega)]
  rfl
theorem en_b {T : Tb} {μ : Mem} {a : Nat} (h : kd μ a = 101) : en T μ a = .inl (T.2.1, al μ a, .inl (ai μ a)) := by unfold en; rw [h]; rfl
theorem en_i {T : Tb} {μ : Mem} {a : Nat} (h : kd μ a = 102) : en T μ a = .inl (T.2.2.1, al μ a, .inl (ai μ a)) := by unfold en; rw [h]; rfl
theorem en_j {T : Tb} {μ : Mem} {a : Nat} (h : kd μ a = 103) : en T μ a = .inl (T.2.2.2.1, al μ a, .inr (.inl (aj μ a))) := by unfold en; rw [h]; rfl
theorem en_z {T : Tb} {μ : Mem} {a : Nat} (h : kd μ a = 104) : en T μ a = .inl (T.2.2.2.2.1, al μ a, .inl (ai μ a)) := by unfold en; rw [h]; rfl
theorem en_r {T : Tb} {μ : Mem} {a : Nat} (h : kd μ a = 105) : en T μ a = .inl (T.2.2.2.2.2.1, al μ a, .inr (.inr (.inr (.inr (ar μ a))))) := by unfold en; rw [h]; rfl
/-- what a store does to the picture: only the entry of one cell is another -/
theorem Rl.store {T : Tb} {B : Nat} {μ μ' : Mem} {H1 : Heap} {L : List Nat} {a k : Nat} {e : va_E} (hL : ∀ b, b ∈ L ↔ (kd μ b ≠ 0 ∧ kd μ b < 106)) (hRs : Rs (T.2.2.2.2.2.2 0) (T.2.2.2.2.2.2 1) (T.2.2.2.2.2.2 2) μ) (hal : ∀ b, al μ' b = al μ b) (hD : va_D (Ai B) ([] ++ va_pl L (en T μ))) (ha : a ∈ L) (hk : ([] ++ va_pl L (en T μ))[k]? = some (a, en T μ a))
    (hkd : ∀ b, kd μ' b = kd μ b) (he : en T μ' a = e) (ho : ∀ b, b ≠ a → en T μ' b = en T μ b) (hP1 : va_P T.1 vwCl (([] ++ va_pl L (en T μ)).set k (a, e)) H1) (hD1 : va_D (Ai B) (([] ++ va_pl L (en T μ)).set k (a, e))) : Rl T B μ' H1 := by
  have e1 : ([] ++ va_pl L (en T μ)).set k (a, e) = [] ++ va_pl L (en T μ') := by
    rw [va_pl_set hD ha hk]
    congr 1
    refine va_pl_congr fun b => ?_
    by_cases hb : b = a
    · subst hb; simp [va_up, he]
    · simp [va_up, hb, ho b hb]
  rw [e1] at hP1 hD1
  refine ⟨L, fun b => by rw [hkd]; exact hL b, hP1, hD1, ?_⟩
  unfold Rs
  simp only [hkd, hal]
  exact hRs
/-- what a making does to it -/
theorem Rl.made {T : Tb} {B : Nat} {μ μ' : Mem} {H1 : Heap} {L : List Nat} {q t : Nat} {e : va_E} (hL : ∀ b, b ∈ L ↔ (kd μ b ≠ 0 ∧ kd μ b < 106)) (hRs : Rs (T.2.2.2.2.2.2 0) (T.2.2.2.2.2.2 1) (T.2.2.2.2.2.2 2) μ) (hq0 : kd μ q = 0) (hal : ∀ b, b ≠ q → al μ' b = al μ b) (hq : q ∉ L) (ht : t ≠ 0) (ht6 : t < 106) (hkq : kd μ' q = t) (hko : ∀ b, b ≠ q → kd μ' b = kd μ b) (he : en T μ' q = e) (ho : ∀ b, b ≠ q → en T μ' b = en T μ b)
    (hP1 : va_P T.1 vwCl (([] ++ va_pl L (en T μ)) ++ [(q, e)]) H1) (hD1 : va_D (Ai B) (([] ++ va_pl L (en T μ)) ++ [(q, e)])) : Rl T B μ' H1 := by
  have e1 : ([] ++ va_pl L (en T μ)) ++ [(q, e)] = [] ++ va_pl (L ++ [q]) (en T μ') := by
    show va_pl L (en T μ) ++ [(q, e)] = va_pl (L ++ [q]) (en T μ')
    rw [va_pl_push hq]
    refine va_pl_congr fun b => ?_
    by_cases hb : b = q
    · subst hb; simp [va_up, he]
    · simp [va_up, hb, ho b hb]
  rw [e1] at hP1 hD1
  refine ⟨L ++ [q], fun b => ?_, hP1, hD1, ?_⟩
  · by_cases hb : b = q
    · subst hb; simp [hkq, ht, ht6]
    · rw [hko b hb, ← hL b]; simp [hb]
  · obtain ⟨g0, g1, g2, g3, g4, g5, g6, g7, g8, g9⟩ := hRs
    have n0 : T.2.2.2.2.2.2 0 ≠ q := fun h => by rw [h] at g4; omega
    have n1 : T.2.2.2.2.2.2 1 ≠ q := fun h => by rw [h] at g5; omega
    have n2 : T.2.2.2.2.2.2 2 ≠ q := fun h => by rw [h] at g6; omega
    have k : ∀ a, kd μ' a = kd μ a ∨ (a = q ∧ kd μ' a = t) := fun a => by
      by_cases h : a = q
      · exact Or.inr ⟨h, by rw [h]; exact hkq⟩
      · exact Or.inl (hko a h)
    refine ⟨fun a => ?_, fun a h => ?_, fun a h => ?_, fun a h => ?_, by rw [hko _ n0]; exact g4, by rw [hko _ n1]; exact g5, by rw [hko _ n2]; exact g6, by rw [hal _ n0]; exact g7, by rw [hal _ n1]; exact g8, by rw [hal _ n2]; exact g9⟩
    · rcases k a with h | h
      · rw [h]; exact g0 a
      · omega
    · rcases k a with h2 | h2
      · exact g1 a (by omega)
      · omega
    · rcases k a with h2 | h2
      · exact g2 a (by omega)
      · omega
    · rcases k a with h2 | h2
      · exact g3 a (by omega)
      · omega
end
section
/-! one row an instruction over the memory -/
section ROWS
variable {T : Tb} {B : Nat} {p : Program} {l : Launch} {e : Env} {R : Room} {s : State} {m : MethodId} {args : Array Value} {below : List Frame} {meth : Method} {c : Code} {H : Heap} {locs : List Loc} {cells slots : Nat} {Q : State → Prop}
variable {cc : ByteArray} {nL pc : Nat} {own : String} {ls : Array Slot} {rest : List Value} {μ : Mem} {a : Nat}
theorem mx_geti (X : CX T B p m c cc nL s args own) (M : MS T B s μ H locs) {C : String} {F : u_T} {N ci index : Nat} (k : Nat) (hc : vwCl[ci]? = some (C, F, N)) (hin : ∀ w ∈ u_ws C F N, w ∈ G) (hN : k < N) (hs : (sg ci)[k]? = some false) (hci : ci < 100)
    (hlink : Cond.fieldLink own index (F k).1 (F k).2.1 (F k).2.2.1 ∈ G) (hdg : decode cc pc = .ok (.getfield index, 3)) (ha : kd μ a = ci + 1)
    (kk : W p l e R s m args below meth c H locs cells slots Q (F0 m (pc + 3) ls (.int (fi μ ci k a) :: rest))) : W p l e R s m args below meth c H locs cells slots Q (F0 m pc ls (.ref a :: rest)) := by
  obtain ⟨hx, hb, -, hown, hts, ⟨hK, -⟩, hSF⟩ := X
  obtain ⟨⟨L, hL, hP, hD, hRs⟩, -, hS⟩ := M
  obtain ⟨q, hq⟩ := va_pl_get (X := []) (f := en T μ) ((hL a).mpr ⟨by omega, by omega⟩)
  rw [en_o ha hci] at hq
  exact va_get hx hb hts hin hown hK hP q hq hc k hN (hts _ hlink) (fun _ h => h) (v := .int (fi μ ci k a)) (by rw [fls_get hs]; rfl) hdg kk
theorem mx_getr (X : CX T B p m c cc nL s args own) (M : MS T B s μ H locs) {C : String} {F : u_T} {N ci index : Nat} (k : Nat) (hc : vwCl[ci]? = some (C, F, N)) (hin : ∀ w ∈ u_ws C F N, w ∈ G) (hN : k < N) (hs : (sg ci)[k]? = some true) (hci : ci < 100)
    (hlink : Cond.fieldLink own index (F k).1 (F k).2.1 (F k).2.2.1 ∈ G) (hdg : decode cc pc = .ok (.getfield index, 3)) (ha : kd μ a = ci + 1)
    (kk : W p l e R s m args below meth c H locs cells slots Q (F0 m (pc + 3) ls (va_rf (fr μ ci k a) :: rest))) : W p l e R s m args below meth c H locs cells slots Q (F0 m pc ls (.ref a :: rest)) := by
  obtain ⟨hx, hb, -, hown, hts, ⟨hK, -⟩, hSF⟩ := X
  obtain ⟨⟨L, hL, hP, hD, hRs⟩, -, hS⟩ := M
  obtain ⟨q, hq⟩ := va_pl_get (X := []) (f := en T μ) ((hL a).mpr ⟨by omega, by omega⟩)
  rw [en_o ha hci] at hq
  exact va_get hx hb hts hin hown hK hP q hq hc k hN (hts _ hlink) (fun _ h => h) (v := va_rf (fr μ ci k a)) (by rw [fls_get hs]; rfl) hdg kk
theorem fls_seti {μ : Mem} {c k a : Nat} {v : Int32} (hs : (sg c)[k]? = some false) : (fls μ c a).set k (.int v) = fls (sfi μ c k a v) c a := by
  apply List.ext_getElem?
  intro i
  rw [List.getElem?_set]
  by_cases hi : k = i
  · subst hi
    have hl : k < (fls μ c a).length := by rw [fls_len]; exact (List.getElem?_eq_some_iff.mp hs).1
    simp [hl, fls_get hs, sfi, fi, up3]
  · rw [if_neg hi]
    cases hb : (sg c)[i]? with
    | none => simp [fls, List.getElem?_map, List.getElem?_zipIdx, hb]
    | some b =>
      rw [fls_get hb, fls_get hb]
      have hi' : ¬ i = k := fun h => hi h.symm
      simp [sfi, fi, fr, up3, hi']
theorem fls_setr {μ : Mem} {c k a : Nat} {v : Option Nat} (hs : (sg c)[k]? = some true) : (fls μ c a).set k (va_rf v) = fls (sfr μ c k a v) c a := by
  apply List.ext_getElem?
  intro i
  rw [List.getElem?_set]
  by_cases hi : k = i
  · subst hi
    have hl : k < (fls μ c a).length := by rw [fls_len]; exact (List.getElem?_eq_some_iff.mp hs).1
    simp [hl, fls_get hs, sfr, fr, up3]
  · rw [if_neg hi]
    cases hb : (sg c)[i]? with
    | none => simp [fls, List.getElem?_map, List.getElem?_zipIdx, hb]
    | some b =>
      rw [fls_get hb, fls_get hb]
      have hi' : ¬ i = k := fun h => hi h.symm
      simp [sfr, fi, fr, up3, hi']
theorem fls_oi {μ : Mem} {c d k a b : Nat} {v : Int32} (h : b ≠ a) : fls (sfi μ c k a v) d b = fls μ d b := by simp [fls, sfi, fi, fr, up3, h]
theorem fls_or {μ : Mem} {c d k a b : Nat} {v : Option Nat} (h : b ≠ a) : fls (sfr μ c k a v) d b = fls μ d b := by simp [fls, sfr, fi, fr, up3, h]
theorem en_congr {T : Tb} {μ μ' : Mem} {b : Nat} (h0 : kd μ' b = kd μ b) (h1 : al μ' b = al μ b) (h2 : ai μ' b = ai μ b) (h3 : aj μ' b = aj μ b) (h4 : ar μ' b = ar μ b) (h5 : ∀ d, fls μ' d b = fls μ d b) : en T μ' b = en T μ b := by
  unfold en; rw [h0, h1, h2, h3, h4, h5]
theorem mx_puti (X : CX T B p m c cc nL s args own) (M : MS T B s μ H locs) {C : String} {F : u_T} {N ci index : Nat} (k : Nat) (hc : vwCl[ci]? = some (C, F, N)) (hin : ∀ w ∈ u_ws C F N, w ∈ G) (ty : Nat → FieldType) (hty : ∀ k, k < N → parseFieldDescriptor (F k).2.2.1 = some (ty k)) (hnm : ∀ a, a < N → ∀ b, b < N → a ≠ b → (F a).2.1 ≠ (F b).2.1) (hN : k < N) (hs : (sg ci)[k]? = some false) (hci : ci < 100)
    (hlink : Cond.fieldLink own index (F k).1 (F k).2.1 (F k).2.2.1 ∈ G) (hfin : (F k).2.2.2 = false) (hdg : decode cc pc = .ok (.putfield index, 3)) (ha : kd μ a = ci + 1) {v : Int32} (hn : narrow (ty k) (.int v) = .int v) (hf : fits (ty k) (.int v) = true)
    (kk : ∀ (H1 : Heap) (locs1 : List Loc), MS T B s (sfi μ ci k a v) H1 locs1 → W p l e R s m args below meth c H1 locs1 cells slots Q (F0 m (pc + 3) ls rest)) : W p l e R s m args below meth c H locs cells slots Q (F0 m pc ls (.int v :: .ref a :: rest)) := by
  obtain ⟨hx, hb, -, hown, hts, ⟨hK, -⟩, hSF⟩ := X
  obtain ⟨⟨L, hL, hP, hD, hRs⟩, hB, hS⟩ := M
  have hm := (hL a).mpr ⟨by omega, by omega⟩
  obtain ⟨q, hq⟩ := va_pl_get (X := []) (f := en T μ) hm
  have hq0 := hq
  rw [en_o ha hci] at hq
  refine va_put hx hb hts hin ty hty hnm hown hK hP hD hS q hq hc k hN (hts _ hlink) (fun _ h => h) hfin (hty k hN) hn hf (by rw [fls_len]; exact (List.getElem?_eq_some_iff.mp hs).1) hdg fun H1 locs1 hP1 hD1 hS1 => kk H1 locs1 ⟨?_, hB, hS1⟩
  refine Rl.store (μ' := sfi μ ci k a v) hL hRs (fun _ => rfl) hD hm hq0 (fun _ => rfl) ?_ (fun b hb => en_congr rfl rfl rfl rfl rfl (fun d => fls_oi hb)) hP1 hD1
  rw [en_o (show kd (sfi μ ci k a v) a = ci + 1 from ha) hci, fls_seti hs]
theorem mx_putr (X : CX T B p m c cc nL s args own) (M : MS T B s μ H locs) {C : String} {F : u_T} {N ci index : Nat} (k : Nat) (hc : vwCl[ci]? = some (C, F, N)) (hin : ∀ w ∈ u_ws C F N, w ∈ G) (ty : Nat → FieldType) (hty : ∀ k, k < N → parseFieldDescriptor (F k).2.2.1 = some (ty k)) (hnm : ∀ a, a < N → ∀ b, b < N → a ≠ b → (F a).2.1 ≠ (F b).2.1) (hN : k < N) (hs : (sg ci)[k]? = some true) (hci : ci < 100)
    (hlink : Cond.fieldLink own index (F k).1 (F k).2.1 (F k).2.2.1 ∈ G) (hfin : (F k).2.2.2 = false) (hdg : decode cc pc = .ok (.putfield index, 3)) (ha : kd μ a = ci + 1) {v : Option Nat} (hn : narrow (ty k) (va_rf v) = va_rf v) (hf : fits (ty k) (va_rf v) = true)
    (kk : ∀ (H1 : Heap) (locs1 : List Loc), MS T B s (sfr μ ci k a v) H1 locs1 → W p l e R s m args below meth c H1 locs1 cells slots Q (F0 m (pc + 3) ls rest)) : W p l e R s m args below meth c H locs cells slots Q (F0 m pc ls (va_rf v :: .ref a :: rest)) := by
  obtain ⟨hx, hb, -, hown, hts, ⟨hK, -⟩, hSF⟩ := X
  obtain ⟨⟨L, hL, hP, hD, hRs⟩, hB, hS⟩ := M
  have hm := (hL a).mpr ⟨by omega, by omega⟩
  obtain ⟨q, hq⟩ := va_pl_get (X := []) (f := en T μ) hm
  have hq0 := hq
  rw [en_o ha hci] at hq
  refine va_put hx hb hts hin ty hty hnm hown hK hP hD hS q hq hc k hN (hts _ hlink) (fun _ h => h) hfin (hty k hN) hn hf (by rw [fls_len]; exact (List.getElem?_eq_some_iff.mp hs).1) hdg fun H1 locs1 hP1 hD1 hS1 => kk H1 locs1 ⟨?_, hB, hS1⟩
  refine Rl.store (μ' := sfr μ ci k a v) hL hRs (fun _ => rfl) hD hm hq0 (fun _ => rfl) ?_ (fun b hb => en_congr rfl rfl rfl rfl rfl (fun d => fls_or hb)) hP1 hD1
  rw [en_o (show kd (sfr μ ci k a v) a = ci + 1 from ha) hci, fls_setr hs]
/-- a final field, in a constructor -/
theorem mx_putrF (X : CX T B p m c cc nL s args own) (M : MS T B s μ H locs) {C : String} {F : u_T} {N ci index : Nat} (k : Nat) (hc : vwCl[ci]? = some (C, F, N)) (hin : ∀ w ∈ u_ws C F N, w ∈ G) (ty : Nat → FieldType) (hty : ∀ k, k < N → parseFieldDescriptor (F k).2.2.1 = some (ty k)) (hnm : ∀ a, a < N → ∀ b, b < N → a ≠ b → (F a).2.1 ≠ (F b).2.1) (hN : k < N) (hs : (sg ci)[k]? = some true) (hci : ci < 100)
    (hlink : Cond.fieldLink own index (F k).1 (F k).2.1 (F k).2.2.1 ∈ G) (hfin : (F k).2.2.2 = true) (hin2 : meth.name = "<init>") (hdecl : (F k).1 = own) (hdg : decode cc pc = .ok (.putfield index, 3)) (ha : kd μ a = ci + 1) {v : Option Nat} (hn : narrow (ty k) (va_rf v) = va_rf v) (hf : fits (ty k) (va_rf v) = true)
    (kk : ∀ (H1 : Heap) (locs1 : List Loc), MS T B s (sfr μ ci k a v) H1 locs1 → W p l e R s m args below meth c H1 locs1 cells slots Q (F0 m (pc + 3) ls rest)) : W p l e R s m args below meth c H locs cells slots Q (F0 m pc ls (va_rf v :: .ref a :: rest)) := by
  obtain ⟨hx, hb, -, hown, hts, ⟨hK, -⟩, hSF⟩ := X
  obtain ⟨⟨L, hL, hP, hD, hRs⟩, hB, hS⟩ := M
  have hm := (hL a).mpr ⟨by omega, by omega⟩
  obtain ⟨q, hq⟩ := va_pl_get (X := []) (f := en T μ) hm
  have hq0 := hq
  rw [en_o ha hci] at hq
  refine va_putF hx hb hts hin ty hty hnm hown hK hP hD hS q hq hc k hN (hts _ hlink) (fun _ h => h) hfin hin2 hdecl (hty k hN) hn hf (by rw [fls_len]; exact (List.getElem?_eq_some_iff.mp hs).1) hdg fun H1 locs1 hP1 hD1 hS1 => kk H1 locs1 ⟨?_, hB, hS1⟩
  refine Rl.store (μ' := sfr μ ci k a v) hL hRs (fun _ => rfl) hD hm hq0 (fun _ => rfl) ?_ (fun b hb => en_congr rfl rfl rfl rfl rfl (fun d => fls_or hb)) hP1 hD1
  rw [en_o (show kd (sfr μ ci k a v) a = ci + 1 from ha) hci, fls_setr hs]
theorem mx_putiF (X : CX T B p m c cc nL s args own) (M : MS T B s μ H locs) {C : String} {F : u_T} {N ci index : Nat} (k : Nat) (hc : vwCl[ci]? = some (C, F, N)) (hin : ∀ w ∈ u_ws C F N, w ∈ G) (ty : Nat → FieldType) (hty : ∀ k, k < N → parseFieldDescriptor (F k).2.2.1 = some (ty k)) (hnm : ∀ a, a < N → ∀ b, b < N → a ≠ b → (F a).2.1 ≠ (F b).2.1) (hN : k < N) (hs : (sg ci)[k]? = some false) (hci : ci < 100)
    (hlink : Cond.fieldLink own index (F k).1 (F k).2.1 (F k).2.2.1 ∈ G) (hfin : (F k).2.2.2 = true) (hin2 : meth.name = "<init>") (hdecl : (F k).1 = own) (hdg : decode cc pc = .ok (.putfield index, 3)) (ha : kd μ a = ci + 1) {v : Int32} (hn : narrow (ty k) (.int v) = .int v) (hf : fits (ty k) (.int v) = true)
    (kk : ∀ (H1 : Heap) (locs1 : List Loc), MS T B s (sfi μ ci k a v) H1 locs1 → W p l e R s m args below meth c H1 locs1 cells slots Q (F0 m (pc + 3) ls rest)) : W p l e R s m args below meth c H locs cells slots Q (F0 m pc ls (.int v :: .ref a :: rest)) := by
  obtain ⟨hx, hb, -, hown, hts, ⟨hK, -⟩, hSF⟩ := X
  obtain ⟨⟨L, hL, hP, hD, hRs⟩, hB, hS⟩ := M
  have hm := (hL a).mpr ⟨by omega, by omega⟩
  obtain ⟨q, hq⟩ := va_pl_get (X := []) (f := en T μ) hm
  have hq0 := hq
  rw [en_o ha hci] at hq
  refine va_putF hx hb hts hin ty hty hnm hown hK hP hD hS q hq hc k hN (hts _ hlink) (fun _ h => h) hfin hin2 hdecl (hty k hN) hn hf (by rw [fls_len]; exact (List.getElem?_eq_some_iff.mp hs).1) hdg fun H1 locs1 hP1 hD1 hS1 => kk H1 locs1 ⟨?_, hB, hS1⟩
  refine Rl.store (μ' := sfi μ ci k a v) hL hRs (fun _ => rfl) hD hm hq0 (fun _ => rfl) ?_ (fun b hb => en_congr rfl rfl rfl rfl rfl (fun d => fls_oi hb)) hP1 hD1
  rw [en_o (show kd (sfi μ ci k a v) a = ci + 1 from ha) hci, fls_seti hs]
def fs0 (c : Nat) : List Value := (sg c).map (fun b => if b = true then .null else .int 0)
theorem fls_nob {μ : Mem} {c a : Nat} : fls (nob μ c a) c a = fs0 c := by
  apply List.ext_getElem?
  intro i
  cases hb : (sg c)[i]? with
  | none => simp [fls, fs0, List.getElem?_map, List.getElem?_zipIdx, hb]
  | some b =>
    rw [fls_get hb]
    simp [fs0, List.getElem?_map, hb, nob, fi, fr, va_rf]
theorem fls_nobo {μ : Mem} {c d a b : Nat} (h : b ≠ a) : fls (nob μ c a) d b = fls μ d b := by simp [fls, nob, fi, fr, h]
theorem mx_new (X : CX T B p m c cc nL s args own) (M : MS T B s μ H locs) {C : String} {F : u_T} {N ci index : Nat} (hc : vwCl[ci]? = some (C, F, N)) (hin : ∀ w ∈ u_ws C F N, w ∈ G) (ty : Nat → FieldType) (hty : ∀ k, k < N → parseFieldDescriptor (F k).2.2.1 = some (ty k)) (hfs : ∀ j, j < N → defaultValue (ty j) = vp_V (fs0 ci) j) (hci : ci < 100)
    (hlink : Cond.classLink own index C ∈ G) (hinst : Cond.instantiable C N ∈ G) (hini : Cond.initialized C ∈ G) (hdg : decode cc pc = .ok (.new index, 3)) (h1 : cells + 1 ≤ R.cells) (h2 : slots + N ≤ R.slots)
    (kk : ∀ (q : Nat) (H1 : Heap), kd μ q = 0 → MS T B s (nob μ ci q) H1 locs → W p l e R s m args below meth c H1 locs (cells + 1) (slots + N) Q (F0 m (pc + 3) ls (.ref q :: rest))) : W p l e R s m args below meth c H locs cells slots Q (F0 m pc ls rest) := by
  obtain ⟨hx, hb, -, hown, hts, ⟨hK, -⟩, hSF⟩ := X
  obtain ⟨⟨L, hL, hP, hD, hRs⟩, hB, hS⟩ := M
  refine va_new hx hb hts hin ty hty hown (hts _ hlink) (hts _ hinst) (hts _ hini) hK hP hD hS (fun q h => Nat.le_trans hB h) hc hfs h1 h2 hdg fun q H1 hP1 hD1 hS1 => ?_
  have hq : q ∉ L := va_pl_fresh2 (X := []) hD1
  have hAq : Ai B q := vaD_last hD1
  have hkq : kd μ q = 0 := Rs.fresh hSF hRs hL hq hAq
  refine kk q H1 hkq ⟨?_, hB, hS1⟩
  have hk1 : kd (nob μ ci q) q = ci + 1 := by simp [kd, nob, va_up]
  refine Rl.made (μ' := nob μ ci q) hL hRs hkq (fun _ _ => rfl) hq (Nat.succ_ne_zero ci) (by omega) hk1 (fun b hb => by simp [kd, nob, va_up, hb]) ?_ (fun b hb => en_congr (by simp [kd, nob, va_up, hb]) rfl rfl rfl rfl (fun d => fls_nobo hb)) hP1 hD1
  rw [en_o hk1 hci, fls_nob]
theorem mx_ald (X : CX T B p m c cc nL s args own) (M : MS T B s μ H locs) (hdg : decode cc pc = .ok (.iaload, 1)) (ha : kd μ a = 102) {i : Int32} (hi : vp_in i (al μ a))
    (kk : W p l e R s m args below meth c H locs cells slots Q (F0 m (pc + 1) ls (.int (ai μ a i.toNatClampNeg) :: rest))) : W p l e R s m args below meth c H locs cells slots Q (F0 m pc ls (.int i :: .ref a :: rest)) := by
  obtain ⟨hx, hb, -, hown, hts, ⟨hK, -⟩, hSF⟩ := X
  obtain ⟨⟨L, hL, hP, hD, hRs⟩, -, hS⟩ := M
  obtain ⟨q, hq⟩ := va_pl_get (X := []) (f := en T μ) ((hL a).mpr ⟨by omega, by omega⟩)
  rw [en_i ha] at hq
  exact va_iald hx hb hK hP q 1 hq rfl hi hdg kk
theorem mx_bld (X : CX T B p m c cc nL s args own) (M : MS T B s μ H locs) (hdg : decode cc pc = .ok (.baload, 1)) (ha : kd μ a = 101) {i : Int32} (hi : vp_in i (al μ a))
    (kk : W p l e R s m args below meth c H locs cells slots Q (F0 m (pc + 1) ls (.int (ai μ a i.toNatClampNeg) :: rest))) : W p l e R s m args below meth c H locs cells slots Q (F0 m pc ls (.int i :: .ref a :: rest)) := by
  obtain ⟨hx, hb, -, hown, hts, ⟨hK, -⟩, hSF⟩ := X
  obtain ⟨⟨L, hL, hP, hD, hRs⟩, -, hS⟩ := M
  obtain ⟨q, hq⟩ := va_pl_get (X := []) (f := en T μ) ((hL a).mpr ⟨by omega, by omega⟩)
  rw [en_b ha] at hq
  exact va_bald hx hb hK hP q 0 hq rfl hi hdg kk
theorem mx_zld (X : CX T B p m c cc nL s args own) (M : MS T B s μ H locs) (hdg : decode cc pc = .ok (.baload, 1)) (ha : kd μ a = 104) {i : Int32} (hi : vp_in i (al μ a))
    (kk : W p l e R s m args below meth c H locs cells slots Q (F0 m (pc + 1) ls (.int (ai μ a i.toNatClampNeg) :: rest))) : W p l e R s m args below meth c H locs cells slots Q (F0 m pc ls (.int i :: .ref a :: rest)) := by
  obtain ⟨hx, hb, -, hown, hts, ⟨hK, -⟩, hSF⟩ := X
  obtain ⟨⟨L, hL, hP, hD, hRs⟩, -, hS⟩ := M
  obtain ⟨q, hq⟩ := va_pl_get (X := []) (f := en T μ) ((hL a).mpr ⟨by omega, by omega⟩)
  rw [en_z ha] at hq
  exact va_zald hx hb hK hP q 3 hq rfl hi hdg kk
theorem mx_jld (X : CX T B p m c cc nL s args own) (M : MS T B s μ H locs) (hdg : decode cc pc = .ok (.laload, 1)) (ha : kd μ a = 103) {i : Int32} (hi : vp_in i (al μ a))
    (kk : W p l e R s m args below meth c H locs cells slots Q (F0 m (pc + 1) ls (.long (aj μ a i.toNatClampNeg) :: rest))) : W p l e R s m args below meth c H locs cells slots Q (F0 m pc ls (.int i :: .ref a :: rest)) := by
  obtain ⟨hx, hb, -, hown, hts, ⟨hK, -⟩, hSF⟩ := X
  obtain ⟨⟨L, hL, hP, hD, hRs⟩, -, hS⟩ := M
  obtain ⟨q, hq⟩ := va_pl_get (X := []) (f := en T μ) ((hL a).mpr ⟨by omega, by omega⟩)
  rw [en_j ha] at hq
  exact va_lald hx hb hK hP q 2 hq rfl hi hdg kk
theorem mx_rld (X : CX T B p m c cc nL s args own) (M : MS T B s μ H locs) (hdg : decode cc pc = .ok (.aaload, 1)) (ha : kd μ a = 105) {i : Int32} (hi : vp_in i (al μ a))
    (kk : W p l e R s m args below meth c H locs cells slots Q (F0 m (pc + 1) ls (va_rf (ar μ a i.toNatClampNeg) :: rest))) : W p l e R s m args below meth c H locs cells slots Q (F0 m pc ls (.int i :: .ref a :: rest)) := by
  obtain ⟨hx, hb, -, hown, hts, ⟨hK, -⟩, hSF⟩ := X
  obtain ⟨⟨L, hL, hP, hD, hRs⟩, -, hS⟩ := M
  obtain ⟨q, hq⟩ := va_pl_get (X := []) (f := en T μ) ((hL a).mpr ⟨by omega, by omega⟩)
  rw [en_r ha] at hq
  exact va_aldq hx hb hK hP q 4 hq rfl hi hdg kk
def isArr (t : Nat) : Prop := t = 101 ∨ t = 102 ∨ t = 103 ∨ t = 104 ∨ t = 105 ∨ t = 106
theorem mx_len (X : CX T B p m c cc nL s args own) (M : MS T B s μ H locs) (hdg : decode cc pc = .ok (.arraylength, 1)) (ha : isArr (kd μ a))
    (kk : W p l e R s m args below meth c H locs cells slots Q (F0 m (pc + 1) ls (.int (nI (al μ a)) :: rest))) : W p l e R s m args below meth c H locs cells slots Q (F0 m pc ls (.ref a :: rest)) := by
  obtain ⟨hx, hb, -, hown, hts, ⟨hK, -⟩, hSF⟩ := X
  obtain ⟨⟨L, hL, hP, hD, hRs⟩, -, hS⟩ := M
  by_cases h6 : kd μ a = 106
  · have ha0 : a = st T 0 := hRs.2.1 a h6
    rw [show al μ a = 0 by rw [ha0]; exact hRs.2.2.2.2.2.2.2.1] at kk
    rw [ha0]
    exact va_tlen hx hb (hSF.2 _ List.mem_cons_self) hS rfl hdg kk
  have ha : kd μ a = 101 ∨ kd μ a = 102 ∨ kd μ a = 103 ∨ kd μ a = 104 ∨ kd μ a = 105 := by rcases ha with h | h | h | h | h | h <;> omega
  obtain ⟨q, hq⟩ := va_pl_get (X := []) (f := en T μ) ((hL a).mpr (by rcases ha with h | h | h | h | h <;> exact ⟨by omega, by omega⟩))
  rcases ha with h | h | h | h | h
  · rw [en_b h] at hq; exact va_alen hx hb hK hP q 0 hq rfl rfl hdg kk
  · rw [en_i h] at hq; exact va_alen hx hb hK hP q 1 hq rfl rfl hdg kk
  · rw [en_j h] at hq; exact va_alen hx hb hK hP q 2 hq rfl rfl hdg kk
  · rw [en_z h] at hq; exact va_alen hx hb hK hP q 3 hq rfl rfl hdg kk
  · rw [en_r h] at hq; exact va_alen hx hb hK hP q 4 hq rfl rfl hdg kk
theorem fls_sai {μ : Mem} {a i d b : Nat} {v : Int32} : fls (sai μ a i v) d b = fls μ d b := rfl
theorem fls_saj {μ : Mem} {a i d b : Nat} {v : Int64} : fls (saj μ a i v) d b = fls μ d b := rfl
theorem fls_sar {μ : Mem} {a i d b : Nat} {v : Option Nat} : fls (sar μ a i v) d b = fls μ d b := rfl
theorem sai_o {μ : Mem} {a i b : Nat} {v : Int32} (h : b ≠ a) : ai (sai μ a i v) b = ai μ b := by funext j; simp [sai, ai, up2, h]
theorem saj_o {μ : Mem} {a i b : Nat} {v : Int64} (h : b ≠ a) : aj (saj μ a i v) b = aj μ b := by funext j; simp [saj, aj, up2, h]
theorem sar_o {μ : Mem} {a i b : Nat} {v : Option Nat} (h : b ≠ a) : ar (sar μ a i v) b = ar μ b := by funext j; simp [sar, ar, up2, h]
theorem sai_s {μ : Mem} {a i : Nat} {v : Int32} : ai (sai μ a i v) a = upd (ai μ a) i v := by funext j; simp [sai, ai, up2, upd]
theorem saj_s {μ : Mem} {a i : Nat} {v : Int64} : aj (saj μ a i v) a = vp_updL (aj μ a) i v := by funext j; simp [saj, aj, up2, vp_updL]
theorem sar_s {μ : Mem} {a i : Nat} {v : Option Nat} : ar (sar μ a i v) a = va_up (ar μ a) i v := by funext j; simp [sar, ar, up2, va_up]
theorem mx_ast (X : CX T B p m c cc nL s args own) (M : MS T B s μ H locs) (hdg : decode cc pc = .ok (.iastore, 1)) (ha : kd μ a = 102) {i x : Int32} (hi : vp_in i (al μ a))
    (kk : ∀ (H1 : Heap) (locs1 : List Loc), MS T B s (sai μ a i.toNatClampNeg x) H1 locs1 → W p l e R s m args below meth c H1 locs1 cells slots Q (F0 m (pc + 1) ls rest)) : W p l e R s m args below meth c H locs cells slots Q (F0 m pc ls (.int x :: .int i :: .ref a :: rest)) := by
  obtain ⟨hx, hb, -, hown, hts, ⟨hK, -⟩, hSF⟩ := X
  obtain ⟨⟨L, hL, hP, hD, hRs⟩, hB, hS⟩ := M
  have hm := (hL a).mpr ⟨by omega, by omega⟩
  obtain ⟨q, hq⟩ := va_pl_get (X := []) (f := en T μ) hm
  have hq0 := hq
  rw [en_i ha] at hq
  refine va_iast hx hb hK hP hD hS q 1 hq rfl hi hdg fun H1 locs1 hP1 hD1 hS1 => kk H1 locs1 ⟨?_, hB, hS1⟩
  refine Rl.store (μ' := sai μ a i.toNatClampNeg x) hL hRs (fun _ => rfl) hD hm hq0 (fun _ => rfl) ?_ (fun b hb => en_congr rfl rfl (sai_o hb) rfl rfl (fun d => fls_sai)) hP1 hD1
  rw [en_i (show kd (sai μ a i.toNatClampNeg x) a = 102 from ha), sai_s]; rfl
theorem mx_bst (X : CX T B p m c cc nL s args own) (M : MS T B s μ H locs) (hdg : decode cc pc = .ok (.bastore, 1)) (ha : kd μ a = 101) {i x : Int32} (hi : vp_in i (al μ a))
    (kk : ∀ (H1 : Heap) (locs1 : List Loc), MS T B s (sai μ a i.toNatClampNeg (vp_nar .byte x)) H1 locs1 → W p l e R s m args below meth c H1 locs1 cells slots Q (F0 m (pc + 1) ls rest)) : W p l e R s m args below meth c H locs cells slots Q (F0 m pc ls (.int x :: .int i :: .ref a :: rest)) := by
  obtain ⟨hx, hb, -, hown, hts, ⟨hK, -⟩, hSF⟩ := X
  obtain ⟨⟨L, hL, hP, hD, hRs⟩, hB, hS⟩ := M
  have hm := (hL a).mpr ⟨by omega, by omega⟩
  obtain ⟨q, hq⟩ := va_pl_get (X := []) (f := en T μ) hm
  have hq0 := hq
  rw [en_b ha] at hq
  refine va_bast hx hb hK hP hD hS q 0 hq rfl hi hdg fun H1 locs1 hP1 hD1 hS1 => kk H1 locs1 ⟨?_, hB, hS1⟩
  refine Rl.store (μ' := sai μ a i.toNatClampNeg (vp_nar .byte x)) hL hRs (fun _ => rfl) hD hm hq0 (fun _ => rfl) ?_ (fun b hb => en_congr rfl rfl (sai_o hb) rfl rfl (fun d => fls_sai)) hP1 hD1
  rw [en_b (show kd (sai μ a i.toNatClampNeg (vp_nar .byte x)) a = 101 from ha), sai_s]; rfl
theorem mx_zst (X : CX T B p m c cc nL s args own) (M : MS T B s μ H locs) (hdg : decode cc pc = .ok (.bastore, 1)) (ha : kd μ a = 104) {i x : Int32} (hi : vp_in i (al μ a))
    (kk : ∀ (H1 : Heap) (locs1 : List Loc), MS T B s (sai μ a i.toNatClampNeg (vp_nar .boolean x)) H1 locs1 → W p l e R s m args below meth c H1 locs1 cells slots Q (F0 m (pc + 1) ls rest)) : W p l e R s m args below meth c H locs cells slots Q (F0 m pc ls (.int x :: .int i :: .ref a :: rest)) := by
  obtain ⟨hx, hb, -, hown, hts, ⟨hK, -⟩, hSF⟩ := X
  obtain ⟨⟨L, hL, hP, hD, hRs⟩, hB, hS⟩ := M
  have hm := (hL a).mpr ⟨by omega, by omega⟩
  obtain ⟨q, hq⟩ := va_pl_get (X := []) (f := en T μ) hm
  have hq0 := hq
  rw [en_z ha] at hq
  refine va_zast hx hb hK hP hD hS q 3 hq rfl hi hdg fun H1 locs1 hP1 hD1 hS1 => kk H1 locs1 ⟨?_, hB, hS1⟩
  refine Rl.store (μ' := sai μ a i.toNatClampNeg (vp_nar .boolean x)) hL hRs (fun _ => rfl) hD hm hq0 (fun _ => rfl) ?_ (fun b hb => en_congr rfl rfl (sai_o hb) rfl rfl (fun d => fls_sai)) hP1 hD1
  rw [en_z (show kd (sai μ a i.toNatClampNeg (vp_nar .boolean x)) a = 104 from ha), sai_s]; rfl
theorem mx_jst (X : CX T B p m c cc nL s args own) (M : MS T B s μ H locs) (hdg : decode cc pc = .ok (.lastore, 1)) (ha : kd μ a = 103) {i : Int32} {x : Int64} (hi : vp_in i (al μ a))
    (kk : ∀ (H1 : Heap) (locs1 : List Loc), MS T B s (saj μ a i.toNatClampNeg x) H1 locs1 → W p l e R s m args below meth c H1 locs1 cells slots Q (F0 m (pc + 1) ls rest)) : W p l e R s m args below meth c H locs cells slots Q (F0 m pc ls (.long x :: .int i :: .ref a :: rest)) := by
  obtain ⟨hx, hb, -, hown, hts, ⟨hK, -⟩, hSF⟩ := X
  obtain ⟨⟨L, hL, hP, hD, hRs⟩, hB, hS⟩ := M
  have hm := (hL a).mpr ⟨by omega, by omega⟩
  obtain ⟨q, hq⟩ := va_pl_get (X := []) (f := en T μ) hm
  have hq0 := hq
  rw [en_j ha] at hq
  refine va_last hx hb hK hP hD hS q 2 hq rfl hi hdg fun H1 locs1 hP1 hD1 hS1 => kk H1 locs1 ⟨?_, hB, hS1⟩
  refine Rl.store (μ' := saj μ a i.toNatClampNeg x) hL hRs (fun _ => rfl) hD hm hq0 (fun _ => rfl) ?_ (fun b hb => en_congr rfl rfl rfl (saj_o hb) rfl (fun d => fls_saj)) hP1 hD1
  rw [en_j (show kd (saj μ a i.toNatClampNeg x) a = 103 from ha), saj_s]; rfl
/-- an object of ours into an array of Object -/
theorem mx_rst (X : CX T B p m c cc nL s args own) (M : MS T B s μ H locs) {C : String} {F : u_T} {N ci v : Nat} (hc : vwCl[ci]? = some (C, F, N)) (hca : Cond.castable C "java/lang/Object" ∈ NWl) (hci : ci < 100) (hdg : decode cc pc = .ok (.aastore, 1)) (ha : kd μ a = 105) (hv : kd μ v = ci + 1) {i : Int32} (hi : vp_in i (al μ a))
    (kk : ∀ (H1 : Heap) (locs1 : List Loc), MS T B s (sar μ a i.toNatClampNeg (some v)) H1 locs1 → W p l e R s m args below meth c H1 locs1 cells slots Q (F0 m (pc + 1) ls rest)) : W p l e R s m args below meth c H locs cells slots Q (F0 m pc ls (.ref v :: .int i :: .ref a :: rest)) := by
  obtain ⟨hx, hb, -, hown, hts, ⟨hK, hNw, -⟩, hSF⟩ := X
  obtain ⟨⟨L, hL, hP, hD, hRs⟩, hB, hS⟩ := M
  have hm := (hL a).mpr ⟨by omega, by omega⟩
  obtain ⟨q, hq⟩ := va_pl_get (X := []) (f := en T μ) hm
  obtain ⟨q2, hq2⟩ := va_pl_get (X := []) (f := en T μ) ((hL v).mpr ⟨by omega, by omega⟩)
  have hq0 := hq
  rw [en_r ha] at hq
  rw [en_o hv hci] at hq2
  refine va_astqO (E := "java/lang/Object") hx hb hK hP hD hS q 4 q2 ci hq rfl (hNw _ hca) hq2 hc hi hdg fun H1 locs1 hP1 hD1 hS1 => kk H1 locs1 ⟨?_, hB, hS1⟩
  refine Rl.store (μ' := sar μ a i.toNatClampNeg (some v)) hL hRs (fun _ => rfl) hD hm hq0 (fun _ => rfl) ?_ (fun b hb => en_congr rfl rfl rfl rfl (sar_o hb) (fun d => fls_sar)) hP1 hD1
  rw [en_r (show kd (sar μ a i.toNatClampNeg (some v)) a = 105 from ha), sar_s]; rfl
theorem fls_nar {μ : Mem} {t a n d b : Nat} : fls (nar μ t a n) d b = fls μ d b := rfl
theorem nar_en {μ : Mem} {t a n b : Nat} (h : b ≠ a) : en T (nar μ t a n) b = en T μ b := by
  refine en_congr ?_ ?_ ?_ ?_ ?_ (fun d => fls_nar)
  · simp [kd, nar, va_up, h]
  · simp [al, nar, va_up, h]
  · funext j; simp [ai, nar, h]
  · funext j; simp [aj, nar, h]
  · funext j; simp [ar, nar, h]
theorem mx_newI (X : CX T B p m c cc nL s args own) (M : MS T B s μ H locs) (harr : Cond.arrayClass .int ∈ G) (hdg : decode cc pc = .ok (.newarray .int, 2)) {n : Int32} (hn : ¬ n < 0) (h9 : n.toNatClampNeg ≤ 1048576) (h1 : cells + 1 ≤ R.cells) (h2 : slots + n.toNatClampNeg ≤ R.slots)
    (kk : ∀ (q : Nat) (H1 : Heap), kd μ q = 0 → MS T B s (nar μ 102 q n.toNatClampNeg) H1 locs → W p l e R s m args below meth c H1 locs (cells + 1) (slots + n.toNatClampNeg) Q (F0 m (pc + 2) ls (.ref q :: rest))) : W p l e R s m args below meth c H locs cells slots Q (F0 m pc ls (.int n :: rest)) := by
  obtain ⟨hx, hb, -, hown, hts, ⟨hK, -⟩, hSF⟩ := X
  obtain ⟨⟨L, hL, hP, hD, hRs⟩, hB, hS⟩ := M
  refine va_newa (atype := .int) (ty := .int) (a0 := (n.toNatClampNeg, .inl (fun _ => 0))) hx hb (hts _ harr) rfl hK hP hD hS (fun q h => Nat.le_trans hB h) (fun _ => rfl) hn rfl (by show _ * 4 ≤ _; omega) h1 h2 hdg fun q cA H1 hK1 hP1 hD1 hS1 => ?_
  have hcA : cA = T.2.2.1 := by
    have e1 : s.vm.findClass ("[" ++ FieldType.int.toString) = some cA := (hK1.2 5 (cA, .int) rfl).2
    have e2 : s.vm.findClass ("[" ++ FieldType.int.toString) = some T.2.2.1 := (hK.2 1 (T.2.2.1, .int) rfl).2
    exact Option.some.inj (e1.symm.trans e2)
  subst hcA
  have hq : q ∉ L := va_pl_fresh2 (X := []) hD1
  have hAq : Ai B q := vaD_last hD1
  have hkq : kd μ q = 0 := Rs.fresh hSF hRs hL hq hAq
  refine kk q H1 hkq ⟨?_, hB, hS1⟩
  have hk1 : kd (nar μ 102 q n.toNatClampNeg) q = 102 := by simp [kd, nar, va_up]
  refine Rl.made (μ' := nar μ 102 q n.toNatClampNeg) hL hRs hkq (fun b hb => by simp [al, nar, va_up, hb]) hq (by decide) (by decide) hk1 (fun b hb => by simp [kd, nar, va_up, hb]) ?_ (fun b hb => nar_en hb) hP1 hD1
  rw [en_i hk1]
  have : ai (nar μ 102 q n.toNatClampNeg) q = fun _ => 0 := by funext j; simp [ai, nar]
  rw [this]
  simp [al, nar, va_up]
theorem mx_newJ (X : CX T B p m c cc nL s args own) (M : MS T B s μ H locs) (harr : Cond.arrayClass .long ∈ G) (hdg : decode cc pc = .ok (.newarray .long, 2)) {n : Int32} (hn : ¬ n < 0) (h9 : n.toNatClampNeg ≤ 1048576) (h1 : cells + 1 ≤ R.cells) (h2 : slots + n.toNatClampNeg ≤ R.slots)
    (kk : ∀ (q : Nat) (H1 : Heap), kd μ q = 0 → MS T B s (nar μ 103 q n.toNatClampNeg) H1 locs → W p l e R s m args below meth c H1 locs (cells + 1) (slots + n.toNatClampNeg) Q (F0 m (pc + 2) ls (.ref q :: rest))) : W p l e R s m args below meth c H locs cells slots Q (F0 m pc ls (.int n :: rest)) := by
  obtain ⟨hx, hb, -, hown, hts, ⟨hK, -⟩, hSF⟩ := X
  obtain ⟨⟨L, hL, hP, hD, hRs⟩, hB, hS⟩ := M
  refine va_newa (atype := .long) (ty := .long) (a0 := (n.toNatClampNeg, .inr (.inl (fun _ => 0)))) hx hb (hts _ harr) rfl hK hP hD hS (fun q h => Nat.le_trans hB h) (fun _ => rfl) hn rfl (by show _ * 8 ≤ _; omega) h1 h2 hdg fun q cA H1 hK1 hP1 hD1 hS1 => ?_
  have hcA : cA = T.2.2.2.1 := by
    have e1 : s.vm.findClass ("[" ++ FieldType.long.toString) = some cA := (hK1.2 5 (cA, .long) rfl).2
    have e2 : s.vm.findClass ("[" ++ FieldType.long.toString) = some T.2.2.2.1 := (hK.2 2 (T.2.2.2.1, .long) rfl).2
    exact Option.some.inj (e1.symm.trans e2)
  subst hcA
  have hq : q ∉ L := va_pl_fresh2 (X := []) hD1
  have hAq : Ai B q := vaD_last hD1
  have hkq : kd μ q = 0 := Rs.fresh hSF hRs hL hq hAq
  refine kk q H1 hkq ⟨?_, hB, hS1⟩
  have hk1 : kd (nar μ 103 q n.toNatClampNeg) q = 103 := by simp [kd, nar, va_up]
  refine Rl.made (μ' := nar μ 103 q n.toNatClampNeg) hL hRs hkq (fun b hb => by simp [al, nar, va_up, hb]) hq (by decide) (by decide) hk1 (fun b hb => by simp [kd, nar, va_up, hb]) ?_ (fun b hb => nar_en hb) hP1 hD1
  rw [en_j hk1]
  have : aj (nar μ 103 q n.toNatClampNeg) q = fun _ => 0 := by funext j; simp [aj, nar]
  rw [this]
  simp [al, nar, va_up]
theorem mx_newB (X : CX T B p m c cc nL s args own) (M : MS T B s μ H locs) (harr : Cond.arrayClass .byte ∈ G) (hdg : decode cc pc = .ok (.newarray .byte, 2)) {n : Int32} (hn : ¬ n < 0) (h9 : n.toNatClampNeg ≤ 1048576) (h1 : cells + 1 ≤ R.cells) (h2 : slots + n.toNatClampNeg ≤ R.slots)
    (kk : ∀ (q : Nat) (H1 : Heap), kd μ q = 0 → MS T B s (nar μ 101 q n.toNatClampNeg) H1 locs → W p l e R s m args below meth c H1 locs (cells + 1) (slots + n.toNatClampNeg) Q (F0 m (pc + 2) ls (.ref q :: rest))) : W p l e R s m args below meth c H locs cells slots Q (F0 m pc ls (.int n :: rest)) := by
  obtain ⟨hx, hb, -, hown, hts, ⟨hK, -⟩, hSF⟩ := X
  obtain ⟨⟨L, hL, hP, hD, hRs⟩, hB, hS⟩ := M
  refine va_newa (atype := .byte) (ty := .byte) (a0 := (n.toNatClampNeg, .inl (fun _ => 0))) hx hb (hts _ harr) rfl hK hP hD hS (fun q h => Nat.le_trans hB h) (fun _ => rfl) hn rfl (by show _ * 1 ≤ _; omega) h1 h2 hdg fun q cA H1 hK1 hP1 hD1 hS1 => ?_
  have hcA : cA = T.2.1 := by
    have e1 : s.vm.findClass ("[" ++ FieldType.byte.toString) = some cA := (hK1.2 5 (cA, .byte) rfl).2
    have e2 : s.vm.findClass ("[" ++ FieldType.byte.toString) = some T.2.1 := (hK.2 0 (T.2.1, .byte) rfl).2
    exact Option.some.inj (e1.symm.trans e2)
  subst hcA
  have hq : q ∉ L := va_pl_fresh2 (X := []) hD1
  have hAq : Ai B q := vaD_last hD1
  have hkq : kd μ q = 0 := Rs.fresh hSF hRs hL hq hAq
  refine kk q H1 hkq ⟨?_, hB, hS1⟩
  have hk1 : kd (nar μ 101 q n.toNatClampNeg) q = 101 := by simp [kd, nar, va_up]
  refine Rl.made (μ' := nar μ 101 q n.toNatClampNeg) hL hRs hkq (fun b hb => by simp [al, nar, va_up, hb]) hq (by decide) (by decide) hk1 (fun b hb => by simp [kd, nar, va_up, hb]) ?_ (fun b hb => nar_en hb) hP1 hD1
  rw [en_b hk1]
  have : ai (nar μ 101 q n.toNatClampNeg) q = fun _ => 0 := by funext j; simp [ai, nar]
  rw [this]
  simp [al, nar, va_up]
theorem mx_newZ (X : CX T B p m c cc nL s args own) (M : MS T B s μ H locs) (harr : Cond.arrayClass .boolean ∈ G) (hdg : decode cc pc = .ok (.newarray .boolean, 2)) {n : Int32} (hn : ¬ n < 0) (h9 : n.toNatClampNeg ≤ 1048576) (h1 : cells + 1 ≤ R.cells) (h2 : slots + n.toNatClampNeg ≤ R.slots)
    (kk : ∀ (q : Nat) (H1 : Heap), kd μ q = 0 → MS T B s (nar μ 104 q n.toNatClampNeg) H1 locs → W p l e R s m args below meth c H1 locs (cells + 1) (slots + n.toNatClampNeg) Q (F0 m (pc + 2) ls (.ref q :: rest))) : W p l e R s m args below meth c H locs cells slots Q (F0 m pc ls (.int n :: rest)) := by
  obtain ⟨hx, hb, -, hown, hts, ⟨hK, -⟩, hSF⟩ := X
  obtain ⟨⟨L, hL, hP, hD, hRs⟩, hB, hS⟩ := M
  refine va_newa (atype := .boolean) (ty := .boolean) (a0 := (n.toNatClampNeg, .inl (fun _ => 0))) hx hb (hts _ harr) rfl hK hP hD hS (fun q h => Nat.le_trans hB h) (fun _ => rfl) hn rfl (by show _ * 1 ≤ _; omega) h1 h2 hdg fun q cA H1 hK1 hP1 hD1 hS1 => ?_
  have hcA : cA = T.2.2.2.2.1 := by
    have e1 : s.vm.findClass ("[" ++ FieldType.boolean.toString) = some cA := (hK1.2 5 (cA, .boolean) rfl).2
    have e2 : s.vm.findClass ("[" ++ FieldType.boolean.toString) = some T.2.2.2.2.1 := (hK.2 3 (T.2.2.2.2.1, .boolean) rfl).2
    exact Option.some.inj (e1.symm.trans e2)
  subst hcA
  have hq : q ∉ L := va_pl_fresh2 (X := []) hD1
  have hAq : Ai B q := vaD_last hD1
  have hkq : kd μ q = 0 := Rs.fresh hSF hRs hL hq hAq
  refine kk q H1 hkq ⟨?_, hB, hS1⟩
  have hk1 : kd (nar μ 104 q n.toNatClampNeg) q = 104 := by simp [kd, nar, va_up]
  refine Rl.made (μ' := nar μ 104 q n.toNatClampNeg) hL hRs hkq (fun b hb => by simp [al, nar, va_up, hb]) hq (by decide) (by decide) hk1 (fun b hb => by simp [kd, nar, va_up, hb]) ?_ (fun b hb => nar_en hb) hP1 hD1
  rw [en_z hk1]
  have : ai (nar μ 104 q n.toNatClampNeg) q = fun _ => 0 := by funext j; simp [ai, nar]
  rw [this]
  simp [al, nar, va_up]
end ROWS
end
section
/-! a method's start, its ends, its calls -/
abbrev Pm {S : Type} (Wd : S → Heap → Prop) (T : Tb) (B : Nat) (μ : S) (As : List Value) : Array Value → State → Prop := va_Pc As (fun U => Wd μ U.heap ∧ B ≤ U.heap.size ∧ KK T U ∧ SF T B U U.heap)
abbrev Bm {S : Type} (Wd : S → Heap → Prop) : S → State → Prop := fun μ t => Wd μ t.heap
theorem mx_of {l : Launch} {y : MethodName} {cc : ByteArray} {nL : Nat} {ret : Option FieldType} {rm : Room} {Qc : Array Value → State → Outcome → State → Prop} {mc ms : Nat} {S : Type} {Wd : S → Heap → Prop} {T : Tb} {B : Nat} {μ : S} {As : List Value} (own : String) (ho : y.cls = own) (hy : plainName y.cls = true) (hlen : (lg_sl As).length ≤ nL)
    (body : ∀ (p : Program) (e : Env) (s : State) (m : MethodId) (below : List Frame) (meth : Method) (c : Code), CX T B p m c cc nL s As.toArray own → meth.sig.returnType = ret → meth.locks = false → meth.name = y.name → MG Wd B s μ s.heap [] → ∀ ls : Array Slot, lv_has ls nL (lv_args 0 As) →
      W p l e rm s m As.toArray below meth c s.heap [] 0 0 (MQ below Qc As.toArray s mc ms (Ai B)) (F0 m 0 ls [])) : Met l y (.code y cc nL ret :: G) rm (Pm Wd T B μ As) Qc mc ms (Ai B) := by
  refine Met.ofW (cc := cc) (maxL := nL) (ret := ret) hy rfl ?_
  intro p e s m args below meth c s₁ Y hml hv
  obtain ⟨rfl, hR, hB, hK, hF⟩ := hv
  have hts := atoms_spec (ws := Cond.code y cc nL ret :: G) Y.pre
  have hown : s.vm.findClass own = some m.cls := by rw [← ho]; exact findClass_of_methodNamed Y.named
  have hl := lv_entry As (n := nL) hlen
  rw [lg_entry_eq]
  exact body p e s m below meth c ⟨Y.exec, Y.bytes, hml, hown, fun w hw => hts w (List.mem_cons_of_mem _ hw), hK, hF⟩ Y.returns Y.notSynchronized (name_of_methodNamed Y.named Y.method).1 ⟨hR, hB, va_S.rf⟩ _ hl
section ENDS
variable {S : Type} {Wd : S → Heap → Prop} {T : Tb} {B : Nat} {p : Program} {l : Launch} {e : Env} {R : Room} {s : State} {m : MethodId} {args : Array Value} {below : List Frame} {meth : Method} {c : Code} {H : Heap} {locs : List Loc} {cells slots mc ms : Nat}
variable {cc : ByteArray} {nL pc : Nat} {own : String} {ls : Array Slot} {rest : List Value} {μ : S}
theorem mx_iret {post : Int32 → S → Prop} {r : Int32} (X : CX T B p m c cc nL s args own) (hr : meth.sig.returnType = some .int) (hk : meth.locks = false) (M : MG Wd B s μ H locs) (hdg : decode cc pc = .ok (.ireturn, 1)) (h1 : cells ≤ mc) (h2 : slots ≤ ms) (hp : post r μ) :
    W p l e R s m args below meth c H locs cells slots (MQ below (va_Qi post (Bm Wd) (Ai B)) args s mc ms (Ai B)) (F0 m pc ls [.int r]) :=
  W.widen h1 h2 (W.iret X.1 X.2.1 hr (fun t ht _ => ⟨⟨r, μ, rfl, hp, by show Wd μ t.heap; rw [ht]; exact M.1⟩, M.2.2.F ht⟩) M.2.2.2.2 hdg hk)
theorem mx_zret {post : Int32 → S → Prop} {r : Int32} {ty : FieldType} (X : CX T B p m c cc nL s args own) (hr : meth.sig.returnType = some ty) (hk : meth.locks = false) (M : MG Wd B s μ H locs) (hdg : decode cc pc = .ok (.ireturn, 1)) (h1 : cells ≤ mc) (h2 : slots ≤ ms) (hn : narrow ty (.int r) = .int r) (hp : post r μ) :
    W p l e R s m args below meth c H locs cells slots (MQ below (va_Qi post (Bm Wd) (Ai B)) args s mc ms (Ai B)) (F0 m pc ls [.int r]) :=
  W.widen h1 h2 (W.zret X.1 X.2.1 hr hn (fun t ht _ => ⟨⟨r, μ, rfl, hp, by show Wd μ t.heap; rw [ht]; exact M.1⟩, M.2.2.F ht⟩) M.2.2.2.2 hdg hk)
theorem mx_lret {post : Int64 → S → Prop} {r : Int64} (X : CX T B p m c cc nL s args own) (hr : meth.sig.returnType = some .long) (hk : meth.locks = false) (M : MG Wd B s μ H locs) (hdg : decode cc pc = .ok (.lreturn, 1)) (h1 : cells ≤ mc) (h2 : slots ≤ ms) (hp : post r μ) :
    W p l e R s m args below meth c H locs cells slots (MQ below (va_Ql post (Bm Wd) (Ai B)) args s mc ms (Ai B)) (F0 m pc ls [.long r]) :=
  W.widen h1 h2 (W.lret X.1 X.2.1 hr (fun t ht _ => ⟨⟨r, μ, rfl, hp, by show Wd μ t.heap; rw [ht]; exact M.1⟩, M.2.2.F ht⟩) M.2.2.2.2 hdg hk)
theorem mx_vret {post : S → Prop} (X : CX T B p m c cc nL s args own) (hr : meth.sig.returnType = none) (hk : meth.locks = false) (M : MG Wd B s μ H locs) (hdg : decode cc pc = .ok (.return_, 1)) (h1 : cells ≤ mc) (h2 : slots ≤ ms) (hp : post μ) :
    W p l e R s m args below meth c H locs cells slots (MQ below (va_Qv post (Bm Wd) (Ai B)) args s mc ms (Ai B)) (F0 m pc ls []) :=
  W.widen h1 h2 (W.vret X.1 X.2.1 hr (fun t ht _ => ⟨⟨μ, rfl, hp, by show Wd μ t.heap; rw [ht]; exact M.1⟩, M.2.2.F ht⟩) M.2.2.2.2 hdg hk)
theorem va_rf_ok (r : Option Nat) : va_rf r = .null ∨ ∃ a, va_rf r = .ref a := by cases r <;> simp [va_rf]
theorem mx_aret {post : Option Nat → S → Prop} {r : Option Nat} {rt : FieldType} (X : CX T B p m c cc nL s args own) (hr : meth.sig.returnType = some rt) (hrt : (∃ n, rt = .object n) ∨ ∃ t, rt = .array t) (hk : meth.locks = false) (M : MG Wd B s μ H locs) (hdg : decode cc pc = .ok (.areturn, 1)) (h1 : cells ≤ mc) (h2 : slots ≤ ms) (hp : post r μ) :
    W p l e R s m args below meth c H locs cells slots (MQ below (va_Qq post (Bm Wd) (Ai B)) args s mc ms (Ai B)) (F0 m pc ls [va_rf r]) :=
  W.widen h1 h2 (W.aret X.1 X.2.1 hr hrt (va_rf_ok r) (fun t ht _ => ⟨⟨r, μ, rfl, hp, by show Wd μ t.heap; rw [ht]; exact M.1⟩, M.2.2.F ht⟩) M.2.2.2.2 hdg hk)
variable {y : MethodName} {bytes : ByteArray} {maxL n index : Nat} {ret : Option FieldType} {rm : Room} {Qc : Array Value → State → Outcome → State → Prop} {As : List Value}
theorem mx_blind : FrameBlind (Pm Wd T B μ As) := fun a U g mk q => by
  obtain ⟨q0, q1, q2, q3, q4⟩ := q
  exact ⟨q0, q1, q2, KK.alike (V := U.calling g mk a) q3 rfl, SF.moved (U := U.calling g mk a) (Vm.Alike.refl U.vm) q4⟩
theorem mx_pre (X : CX T B p m c cc nL s args own) (M : MG Wd B s μ H locs) : ∀ U : State, U.heap = H → s.WarmedH U.vm → Pm Wd T B μ As As.toArray U := fun U hU hW => by
  obtain ⟨-, -, -, -, -, hK, hF⟩ := X
  refine ⟨rfl, by rw [hU]; exact M.1, by rw [hU]; exact Nat.le_trans M.2.1 M.2.2.1, hK.warm hW, ?_⟩
  rw [hU]
  exact SF.moved hW.alike (hF.kept (fun a h1 h2 => M.2.2.2.1 a h1 h2))
abbrev okd (y : MethodName) (n : Nat) : Prop := y.cls ≠ "java/lang/invoke/MethodHandle" ∧ y.cls ≠ "java/lang/invoke/VarHandle" ∧ (parseMethodDescriptor y.desc).map (fun d => d.parameters.length) = some n
abbrev okR (R rm : Room) (maxL : Nat) : Prop := rm.frames + 1 ≤ R.frames ∧ 8 + (maxL + 11) + rm.locals ≤ R.locals
theorem mx_runS (X : CX T B p m c cc nL s args own) (M : MG Wd B s μ H locs) (hM : Met l y (.code y bytes maxL ret :: G) rm (Pm Wd T B μ As) Qc mc ms (Ai B)) (hl : Cond.methodLink own index y ∈ G) (hst : Cond.static y ∈ G) (hini : Cond.initialized y.cls ∈ G) (hco : Cond.code y bytes maxL ret ∈ G) (hd : okd y n) (hrc : rm.cells = mc) (hrs : rm.slots = ms) (hR : okR R rm maxL)
    (hn : As.length = n) (hsz : ls.size = nL) (hcat : (rest.map fun v => v.category).sum ≤ 8) (hdg : decode cc pc = .ok (.invokestatic index, 3)) (hf : cells + mc ≤ R.cells ∧ slots + ms ≤ R.slots) : va_Run p l e R s m args below meth c H locs cells slots mc ms (F0 m pc ls (As.reverse ++ rest)) rest (Qc As.toArray) (Ai B) := by
  obtain ⟨hx, hb, hml, hown, hts, -⟩ := id X
  exact va_runS ⟨hx, hb, hml, hown, hts⟩ hM ⟨callB_of n hts (gG hco) rfl hrc hrs (hts _ hini) (hts _ hl) hd hR, hts _ hst⟩ ⟨mx_blind, mx_pre X M⟩ rfl hn hsz rfl (lv_room hcat) hdg hf
theorem mx_runV {b : Nat} {C : String} (X : CX T B p m c cc nL s args own) (M : MG Wd B s μ H locs) (hM : Met l y (.code y bytes maxL ret :: G) rm (Pm Wd T B μ (.ref b :: As)) Qc mc ms (Ai B)) (hrv : ∃ cell : Cell, H[b]? = some cell ∧ cell.vm.isStatics = false ∧ s.vm.findClass C = some cell.cls) (hl : Cond.methodLink own index y ∈ G) (hst : Cond.instanceMethod y ∈ G) (hse : Cond.selects C y y ∈ G) (hini : Cond.initialized y.cls ∈ G) (hco : Cond.code y bytes maxL ret ∈ G) (hd : okd y n) (hrc : rm.cells = mc) (hrs : rm.slots = ms) (hR : okR R rm maxL)
    (hn : As.length = n) (hsz : ls.size = nL) (hcat : (rest.map fun v => v.category).sum ≤ 8) (hdg : decode cc pc = .ok (.invokevirtual index, 3)) (hf : cells + mc ≤ R.cells ∧ slots + ms ≤ R.slots) : va_Run p l e R s m args below meth c H locs cells slots mc ms (F0 m pc ls (As.reverse ++ .ref b :: rest)) rest (Qc (.ref b :: As).toArray) (Ai B) := by
  obtain ⟨hx, hb, hml, hown, hts, -⟩ := id X
  exact va_runV ⟨hx, hb, hml, hown, hts⟩ hM ⟨callB_of n hts (gG hco) rfl hrc hrs (hts _ hini) (hts _ hl) hd hR, hts _ hst, hts _ hse⟩ ⟨mx_blind, hrv, mx_pre X M⟩ rfl hn hsz rfl (lv_room hcat) hdg hf
theorem mx_runI {b : Nat} (X : CX T B p m c cc nL s args own) (M : MG Wd B s μ H locs) (hM : Met l y (.code y bytes maxL none :: G) rm (Pm Wd T B μ (.ref b :: As)) Qc mc ms (Ai B)) (hl : Cond.methodLink own index y ∈ G) (hst : Cond.instanceMethod y ∈ G) (hy1 : y.name = "<init>") (hini : Cond.initialized y.cls ∈ G) (hco : Cond.code y bytes maxL none ∈ G) (hd : okd y n) (hrc : rm.cells = mc) (hrs : rm.slots = ms) (hR : okR R rm maxL)
    (hn : As.length = n) (hsz : ls.size = nL) (hcat : (rest.map fun v => v.category).sum ≤ 8) (hdg : decode cc pc = .ok (.invokespecial index, 3)) (hf : cells + mc ≤ R.cells ∧ slots + ms ≤ R.slots) : va_Run p l e R s m args below meth c H locs cells slots mc ms (F0 m pc ls (As.reverse ++ .ref b :: rest)) rest (Qc (.ref b :: As).toArray) (Ai B) := by
  obtain ⟨hx, hb, hml, hown, hts, -⟩ := id X
  exact va_runI ⟨hx, hb, hml, hown, hts⟩ hM ⟨callB_of n hts (gG hco) rfl hrc hrs (hts _ hini) (hts _ hl) hd hR, hy1, hts _ hst⟩ ⟨mx_blind, mx_pre X M⟩ rfl hn hsz rfl (lv_room hcat) hdg hf
theorem mx_runSN {host : String} (X : CX T B p m c cc nL s args own) (M : MG Wd B s μ H locs) (hM : Met l y (.code y bytes maxL ret :: G) rm (Pm Wd T B μ As) Qc mc ms (Ai B)) (hl : Cond.methodLinkNest own index y host ∈ NWl) (hst : Cond.static y ∈ G) (hini : Cond.initialized y.cls ∈ G) (hco : Cond.code y bytes maxL ret ∈ G) (hd : okd y n) (hrc : rm.cells = mc) (hrs : rm.slots = ms) (hR : okR R rm maxL)
    (hn : As.length = n) (hsz : ls.size = nL) (hcat : (rest.map fun v => v.category).sum ≤ 8) (hdg : decode cc pc = .ok (.invokestatic index, 3)) (hf : cells + mc ≤ R.cells ∧ slots + ms ≤ R.slots) : va_Run p l e R s m args below meth c H locs cells slots mc ms (F0 m pc ls (As.reverse ++ rest)) rest (Qc As.toArray) (Ai B) := by
  obtain ⟨hx, hb, hml, hown, hts, ⟨-, hNw, -⟩, -⟩ := id X
  exact va_runSN ⟨hx, hb, hml, hown, hts⟩ hM ⟨va_cnB n hts (gG hco) rfl hrc hrs (hNw _ hl) (hts _ hini) hd hR, hts _ hst, trivial⟩ ⟨mx_blind, mx_pre X M⟩ rfl hn hsz rfl (lv_room hcat) hdg hf
theorem mx_runIN {b : Nat} {host : String} (X : CX T B p m c cc nL s args own) (M : MG Wd B s μ H locs) (hM : Met l y (.code y bytes maxL none :: G) rm (Pm Wd T B μ (.ref b :: As)) Qc mc ms (Ai B)) (hl : Cond.methodLinkNest own index y host ∈ NWl) (hst : Cond.instanceMethod y ∈ G) (hy1 : y.name = "<init>") (hini : Cond.initialized y.cls ∈ G) (hco : Cond.code y bytes maxL none ∈ G) (hd : okd y n) (hrc : rm.cells = mc) (hrs : rm.slots = ms) (hR : okR R rm maxL)
    (hn : As.length = n) (hsz : ls.size = nL) (hcat : (rest.map fun v => v.category).sum ≤ 8) (hdg : decode cc pc = .ok (.invokespecial index, 3)) (hf : cells + mc ≤ R.cells ∧ slots + ms ≤ R.slots) : va_Run p l e R s m args below meth c H locs cells slots mc ms (F0 m pc ls (As.reverse ++ .ref b :: rest)) rest (Qc (.ref b :: As).toArray) (Ai B) := by
  obtain ⟨hx, hb, hml, hown, hts, ⟨-, hNw, -⟩, -⟩ := id X
  exact va_runIN ⟨hx, hb, hml, hown, hts⟩ hM ⟨va_cnB n hts (gG hco) rfl hrc hrs (hNw _ hl) (hts _ hini) hd hR, hy1, hts _ hst⟩ ⟨mx_blind, mx_pre X M⟩ rfl hn hsz rfl (lv_room hcat) hdg hf
variable {Q : State → Prop} {a : Array Value} {st0 : List Value}
theorem mx_ci {post : Int32 → S → Prop} (M : MG Wd B s μ H locs) (hr : va_Run p l e R s m args below meth c H locs cells slots mc ms (F0 m pc ls st0) rest (va_Qi post (Bm Wd) (Ai B) a) (Ai B))
    (kk : ∀ (r : Int32) (μ : S) (H1 : Heap) (locs1 : List Loc), post r μ → MG Wd B s μ H1 locs1 → W p l e R s m args below meth c H1 locs1 (cells + mc) (slots + ms) Q (F0 m (pc + 3) ls (.int r :: rest))) : W p l e R s m args below meth c H locs cells slots Q (F0 m pc ls st0) :=
  va_calli hr M.2.2 (fun _ _ h => h) (fun _ h => h) (fun r u t H1 locs1 ht _ hp hB _ _ hS => kk r u H1 locs1 hp ⟨by rw [← ht]; exact hB, M.2.1, hS⟩)
theorem mx_cl {post : Int64 → S → Prop} (M : MG Wd B s μ H locs) (hr : va_Run p l e R s m args below meth c H locs cells slots mc ms (F0 m pc ls st0) rest (va_Ql post (Bm Wd) (Ai B) a) (Ai B))
    (kk : ∀ (r : Int64) (μ : S) (H1 : Heap) (locs1 : List Loc), post r μ → MG Wd B s μ H1 locs1 → W p l e R s m args below meth c H1 locs1 (cells + mc) (slots + ms) Q (F0 m (pc + 3) ls (.long r :: rest))) : W p l e R s m args below meth c H locs cells slots Q (F0 m pc ls st0) :=
  va_calll hr M.2.2 (fun _ _ h => h) (fun _ h => h) (fun r u t H1 locs1 ht _ hp hB _ _ hS => kk r u H1 locs1 hp ⟨by rw [← ht]; exact hB, M.2.1, hS⟩)
theorem mx_cv {post : S → Prop} (M : MG Wd B s μ H locs) (hr : va_Run p l e R s m args below meth c H locs cells slots mc ms (F0 m pc ls st0) rest (va_Qv post (Bm Wd) (Ai B) a) (Ai B))
    (kk : ∀ (μ : S) (H1 : Heap) (locs1 : List Loc), post μ → MG Wd B s μ H1 locs1 → W p l e R s m args below meth c H1 locs1 (cells + mc) (slots + ms) Q (F0 m (pc + 3) ls rest)) : W p l e R s m args below meth c H locs cells slots Q (F0 m pc ls st0) :=
  va_callv hr M.2.2 (fun _ _ h => h) (fun _ h => h) (fun u t H1 locs1 ht _ hp hB _ _ hS => kk u H1 locs1 hp ⟨by rw [← ht]; exact hB, M.2.1, hS⟩)
theorem mx_cq {post : Option Nat → S → Prop} (M : MG Wd B s μ H locs) (hr : va_Run p l e R s m args below meth c H locs cells slots mc ms (F0 m pc ls st0) rest (va_Qq post (Bm Wd) (Ai B) a) (Ai B))
    (kk : ∀ (r : Option Nat) (μ : S) (H1 : Heap) (locs1 : List Loc), post r μ → MG Wd B s μ H1 locs1 → W p l e R s m args below meth c H1 locs1 (cells + mc) (slots + ms) Q (F0 m (pc + 3) ls (va_rf r :: rest))) : W p l e R s m args below meth c H locs cells slots Q (F0 m pc ls st0) :=
  va_callq hr M.2.2 (fun _ _ h => h) (fun _ h => h) (fun r u t H1 locs1 ht _ hp hB _ _ hS => kk r u H1 locs1 hp ⟨by rw [← ht]; exact hB, M.2.1, hS⟩)
end ENDS
theorem mx_recv {T : Tb} {B : Nat} {p : Program} {s : State} {m : MethodId} {args : Array Value} {c : Code} {H : Heap} {locs : List Loc} {cc : ByteArray} {nL : Nat} {own : String} {μ : Mem} {b ci : Nat} {C : String} {F : u_T} {N : Nat} (X : CX T B p m c cc nL s args own) (M : MS T B s μ H locs) (hc : vwCl[ci]? = some (C, F, N)) (hci : ci < 100) (hb : kd μ b = ci + 1) : ∃ cell : Cell, H[b]? = some cell ∧ cell.vm.isStatics = false ∧ s.vm.findClass C = some cell.cls := by
  obtain ⟨-, -, -, -, -, ⟨hK, -⟩, -⟩ := X
  obtain ⟨⟨L, hL, hP, hD, -⟩, -, hS⟩ := M
  obtain ⟨q, hq⟩ := va_pl_get (X := []) (f := en T μ) ((hL b).mpr ⟨by omega, by omega⟩)
  rw [en_o hb hci] at hq
  exact va_recv hK hP hc hq
end
section
/-! The reference's object as a state of numbers: its fields and its rows, by their places -/
abbrev MSt : Type := (Nat → Int32) × (Nat → Nat → Int32) × (Nat → Nat → Int64)
def mi (σ : MSt) : Nat → Int32 := σ.1
def ma (σ : MSt) : Nat → Nat → Int32 := σ.2.1
def ml (σ : MSt) : Nat → Nat → Int64 := σ.2.2
def smi (σ : MSt) (k : Nat) (v : Int32) : MSt := (va_up σ.1 k v, σ.2.1, σ.2.2)
def sma (σ : MSt) (k i : Nat) (v : Int32) : MSt := (σ.1, up2 σ.2.1 k i v, σ.2.2)
def sml (σ : MSt) (k i : Nat) (v : Int64) : MSt := (σ.1, σ.2.1, up2 σ.2.2 k i v)
/-- the row fields: kind and length -/
def mk : Nat → Nat × Nat := fun k => match k with
  | 1 => (102, 10) -- row
  | 4 => (104, 60) -- again
  | 5 => (102, 60) -- slots
  | 6 => (102, 60) -- ins
  | 7 => (102, 60) -- outMany
  | 8 => (102, 480) -- out
  | 9 => (102, 60) -- count
  | 10 => (102, 120000) -- spot
  | 12 => (102, 2000) -- what
  | 13 => (102, 2000) -- one
  | 14 => (102, 2000) -- two
  | 15 => (102, 2000) -- three
  | 16 => (102, 2000) -- four
  | 17 => (102, 2000) -- many
  | 18 => (102, 20000) -- rows
  | 20 => (102, 20100) -- tag
  | 21 => (102, 20100) -- cellMany
  | 22 => (102, 20100) -- cellFirst
  | 23 => (103, 20100) -- field
  | 27 => (104, 7000) -- isFrame
  | 28 => (102, 7000) -- procedure
  | 29 => (102, 7000) -- from
  | 30 => (102, 7000) -- next
  | 31 => (102, 7000) -- caller
  | 32 => (102, 7000) -- callAt
  | 33 => (102, 7000) -- redosThen
  | 34 => (104, 7000) -- dead
  | 35 => (102, 7000) -- heapThen
  | 36 => (102, 7000) -- cellsThen
  | 37 => (102, 7000) -- fieldsThen
  | 38 => (102, 7000) -- trailThen
  | 39 => (103, 20100) -- slot
  | 42 => (102, 200000) -- trailSlot
  | 43 => (103, 200000) -- trailValue
  | 53 => (102, 1000) -- letters
  | 55 => (103, 20100) -- left
  | 56 => (103, 20100) -- right
  | 57 => (102, 7000) -- moved
  | _ => (0, 0)
def IM (μ : Mem) (o : Nat) (A : Nat → Nat) : Prop := kd μ o = 13 ∧ (∀ k, (mk k).1 ≠ 0 → fr μ 12 k o = some (A k) ∧ kd μ (A k) = (mk k).1 ∧ al μ (A k) = (mk k).2) ∧ ∀ j k, (mk j).1 ≠ 0 → (mk k).1 ≠ 0 → A j = A k → j = k
def vw (μ : Mem) (o : Nat) (A : Nat → Nat) : MSt := (fun k => fi μ 12 k o, fun k i => if (mk k).1 = 0 then 0 else ai μ (A k) i, fun k i => if (mk k).1 = 0 then 0 else aj μ (A k) i)
def FM (μ0 μ : Mem) (o : Nat) (A : Nat → Nat) : Prop := kd μ = kd μ0 ∧ fr μ = fr μ0 ∧ al μ = al μ0 ∧ ar μ = ar μ0 ∧ (∀ c k a, ¬ (c = 12 ∧ a = o) → fi μ c k a = fi μ0 c k a) ∧ ∀ a, (∀ k, (mk k).1 ≠ 0 → a ≠ A k) → ∀ i, ai μ a i = ai μ0 a i ∧ aj μ a i = aj μ0 a i
def WM (T : Tb) (B : Nat) (μ0 : Mem) (o : Nat) (A : Nat → Nat) : MSt → Heap → Prop := fun σ H => ∃ μ, Rl T B μ H ∧ IM μ o A ∧ vw μ o A = σ ∧ FM μ0 μ o A
theorem vw_i {μ : Mem} {o : Nat} {A : Nat → Nat} {σ : MSt} (h : vw μ o A = σ) (k : Nat) : fi μ 12 k o = mi σ k := by subst h; rfl
theorem vw_a {μ : Mem} {o : Nat} {A : Nat → Nat} {σ : MSt} (h : vw μ o A = σ) {k : Nat} (hk : (mk k).1 ≠ 0) (i : Nat) : ai μ (A k) i = ma σ k i := by subst h; simp [ma, vw, hk]
theorem vw_l {μ : Mem} {o : Nat} {A : Nat → Nat} {σ : MSt} (h : vw μ o A = σ) {k : Nat} (hk : (mk k).1 ≠ 0) (i : Nat) : aj μ (A k) i = ml σ k i := by subst h; simp [ml, vw, hk]
theorem IM_puti {μ : Mem} {o : Nat} {A : Nat → Nat} {σ : MSt} {μ0 : Mem} (k : Nat) (v : Int32) (hI : IM μ o A) (hv : vw μ o A = σ) (hF : FM μ0 μ o A) : IM (sfi μ 12 k o v) o A ∧ vw (sfi μ 12 k o v) o A = smi σ k v ∧ FM μ0 (sfi μ 12 k o v) o A := by
  refine ⟨hI, ?_, hF.1, hF.2.1, hF.2.2.1, hF.2.2.2.1, ?_, hF.2.2.2.2.2⟩
  · subst hv
    refine Prod.ext ?_ rfl
    funext j
    by_cases hj : j = k
    · simp [vw, smi, sfi, fi, up3, va_up, hj]
    · simp [vw, smi, sfi, fi, up3, va_up, hj]
  · intro c j a h
    rw [← hF.2.2.2.2.1 c j a h]
    simp only [sfi, fi, up3]
    rw [if_neg (fun q => h ⟨q.1, q.2.2⟩)]
theorem IM_puta {μ : Mem} {o : Nat} {A : Nat → Nat} {σ : MSt} {μ0 : Mem} (k i : Nat) (v : Int32) (hk : (mk k).1 ≠ 0) (hI : IM μ o A) (hv : vw μ o A = σ) (hF : FM μ0 μ o A) : IM (sai μ (A k) i v) o A ∧ vw (sai μ (A k) i v) o A = sma σ k i v ∧ FM μ0 (sai μ (A k) i v) o A := by
  refine ⟨hI, ?_, hF.1, hF.2.1, hF.2.2.1, hF.2.2.2.1, hF.2.2.2.2.1, ?_⟩
  · subst hv
    refine Prod.ext rfl (Prod.ext ?_ rfl)
    funext j n
    by_cases hj : (mk j).1 = 0
    · have hne : ¬ j = k := fun e => hk (e ▸ hj)
      simp [vw, sma, up2, hj, hne]
    · by_cases he : j = k
      · subst he; simp [vw, sma, sai, ai, up2, hj]
      · have hA : ¬ A j = A k := fun e => he (hI.2.2 j k hj hk e)
        simp [vw, sma, sai, ai, up2, hj, he, hA]
  · intro a h n
    have := hF.2.2.2.2.2 a h n
    have hne := h k hk
    simp only [sai, ai, aj, up2] at this ⊢
    rw [if_neg (fun q => hne q.1)]
    exact this
theorem IM_putl {μ : Mem} {o : Nat} {A : Nat → Nat} {σ : MSt} {μ0 : Mem} (k i : Nat) (v : Int64) (hk : (mk k).1 ≠ 0) (hI : IM μ o A) (hv : vw μ o A = σ) (hF : FM μ0 μ o A) : IM (saj μ (A k) i v) o A ∧ vw (saj μ (A k) i v) o A = sml σ k i v ∧ FM μ0 (saj μ (A k) i v) o A := by
  refine ⟨hI, ?_, hF.1, hF.2.1, hF.2.2.1, hF.2.2.2.1, hF.2.2.2.2.1, ?_⟩
  · subst hv
    refine Prod.ext rfl (Prod.ext rfl ?_)
    funext j n
    by_cases hj : (mk j).1 = 0
    · have hne : ¬ j = k := fun e => hk (e ▸ hj)
      simp [vw, sml, up2, hj, hne]
    · by_cases he : j = k
      · subst he; simp [vw, sml, saj, aj, up2, hj]
      · have hA : ¬ A j = A k := fun e => he (hI.2.2 j k hj hk e)
        simp [vw, sml, saj, aj, up2, hj, he, hA]
  · intro a h n
    have := hF.2.2.2.2.2 a h n
    have hne := h k hk
    simp only [saj, ai, aj, up2] at this ⊢
    rw [if_neg (fun q => hne q.1)]
    exact this
section MROWS
variable {T : Tb} {B : Nat} {p : Program} {l : Launch} {e : Env} {R : Room} {s : State} {m : MethodId} {args : Array Value} {below : List Frame} {meth : Method} {c : Code} {H : Heap} {locs : List Loc} {cells slots : Nat} {Q : State → Prop}
variable {cc : ByteArray} {nL pc : Nat} {own : String} {ls : Array Slot} {rest : List Value} {μ0 : Mem} {o : Nat} {A : Nat → Nat} {σ : MSt}
theorem inX11 : ∀ w ∈ u_ws RX11 TX11 59, w ∈ G := fun w hw => List.mem_filter.mpr ⟨(by decide +kernel : ∀ w ∈ u_ws RX11 TX11 59, w ∈ lw_tbl) w hw, (by decide +kernel : ∀ w ∈ u_ws RX11 TX11 59, goodWord w = true) w hw⟩
theorem mm_recv (X : CX T B p m c cc nL s args own) (M : MG (WM T B μ0 o A) B s σ H locs) : ∃ cell : Cell, H[o]? = some cell ∧ cell.vm.isStatics = false ∧ s.vm.findClass RX11 = some cell.cls := by
  obtain ⟨⟨μ, hR, hI, hv, hF⟩, hB, hS⟩ := M
  exact mx_recv (μ := μ) (ci := 12) (F := TX11) (N := 59) X ⟨hR, hB, hS⟩ rfl (by decide) hI.1
theorem mm_geti (X : CX T B p m c cc nL s args own) (M : MG (WM T B μ0 o A) B s σ H locs) {index : Nat} (k : Nat) (hN : k < 59) (hs : (sg 12)[k]? = some false) (hlink : Cond.fieldLink own index (TX11 k).1 (TX11 k).2.1 (TX11 k).2.2.1 ∈ G) (hdg : decode cc pc = .ok (.getfield index, 3))
    (kk : W p l e R s m args below meth c H locs cells slots Q (F0 m (pc + 3) ls (.int (mi σ k) :: rest))) : W p l e R s m args below meth c H locs cells slots Q (F0 m pc ls (.ref o :: rest)) := by
  obtain ⟨⟨μ, hR, hI, hv, hF⟩, hB, hS⟩ := M
  exact mx_geti (μ := μ) (ci := 12) (C := RX11) (F := TX11) (N := 59) X ⟨hR, hB, hS⟩ k rfl inX11 hN hs (by decide) hlink hdg hI.1 (by rw [vw_i hv k]; exact kk)
theorem mm_geta (X : CX T B p m c cc nL s args own) (M : MG (WM T B μ0 o A) B s σ H locs) {index : Nat} (k : Nat) (hN : k < 59) (hs : (sg 12)[k]? = some true) (hk : (mk k).1 ≠ 0) (hlink : Cond.fieldLink own index (TX11 k).1 (TX11 k).2.1 (TX11 k).2.2.1 ∈ G) (hdg : decode cc pc = .ok (.getfield index, 3))
    (kk : W p l e R s m args below meth c H locs cells slots Q (F0 m (pc + 3) ls (.ref (A k) :: rest))) : W p l e R s m args below meth c H locs cells slots Q (F0 m pc ls (.ref o :: rest)) := by
  obtain ⟨⟨μ, hR, hI, hv, hF⟩, hB, hS⟩ := M
  exact mx_getr (μ := μ) (ci := 12) (C := RX11) (F := TX11) (N := 59) X ⟨hR, hB, hS⟩ k rfl inX11 hN hs (by decide) hlink hdg hI.1 (by rw [(hI.2.1 k hk).1]; exact kk)
theorem mm_puti (X : CX T B p m c cc nL s args own) (M : MG (WM T B μ0 o A) B s σ H locs) {index : Nat} (k : Nat) (hN : k < 59) (hs : (sg 12)[k]? = some false) (hlink : Cond.fieldLink own index (TX11 k).1 (TX11 k).2.1 (TX11 k).2.2.1 ∈ G) (hfin : (TX11 k).2.2.2 = false) (hdg : decode cc pc = .ok (.putfield index, 3)) {v : Int32} (hn : narrow (tyX11 k) (.int v) = .int v) (hf : fits (tyX11 k) (.int v) = true)
    (kk : ∀ (σ1 : MSt) (H1 : Heap) (locs1 : List Loc), σ1 = smi σ k v → MG (WM T B μ0 o A) B s σ1 H1 locs1 → W p l e R s m args below meth c H1 locs1 cells slots Q (F0 m (pc + 3) ls rest)) : W p l e R s m args below meth c H locs cells slots Q (F0 m pc ls (.int v :: .ref o :: rest)) := by
  obtain ⟨⟨μ, hR, hI, hv, hF⟩, hB, hS⟩ := M
  refine mx_puti (μ := μ) (ci := 12) (C := RX11) (F := TX11) (N := 59) X ⟨hR, hB, hS⟩ k rfl inX11 tyX11 tyX11_ok nmX11 hN hs (by decide) hlink hfin hdg hI.1 hn hf fun H1 locs1 M1 => ?_
  obtain ⟨g1, g2, g3⟩ := IM_puti k v hI hv hF
  exact kk _ H1 locs1 rfl ⟨⟨_, M1.1, g1, g2, g3⟩, M1.2⟩
theorem mm_ald (X : CX T B p m c cc nL s args own) (M : MG (WM T B μ0 o A) B s σ H locs) (k : Nat) (hk : (mk k).1 = 102) (hdg : decode cc pc = .ok (.iaload, 1)) {i : Int32} (hi : vp_in i (mk k).2)
    (kk : W p l e R s m args below meth c H locs cells slots Q (F0 m (pc + 1) ls (.int (ma σ k i.toNatClampNeg) :: rest))) : W p l e R s m args below meth c H locs cells slots Q (F0 m pc ls (.int i :: .ref (A k) :: rest)) := by
  obtain ⟨⟨μ, hR, hI, hv, hF⟩, hB, hS⟩ := M
  have hk0 : (mk k).1 ≠ 0 := by omega
  exact mx_ald (μ := μ) X ⟨hR, hB, hS⟩ hdg (by rw [(hI.2.1 k hk0).2.1, hk]) (by rw [(hI.2.1 k hk0).2.2]; exact hi) (by rw [vw_a hv hk0]; exact kk)
theorem mm_zld (X : CX T B p m c cc nL s args own) (M : MG (WM T B μ0 o A) B s σ H locs) (k : Nat) (hk : (mk k).1 = 104) (hdg : decode cc pc = .ok (.baload, 1)) {i : Int32} (hi : vp_in i (mk k).2)
    (kk : W p l e R s m args below meth c H locs cells slots Q (F0 m (pc + 1) ls (.int (ma σ k i.toNatClampNeg) :: rest))) : W p l e R s m args below meth c H locs cells slots Q (F0 m pc ls (.int i :: .ref (A k) :: rest)) := by
  obtain ⟨⟨μ, hR, hI, hv, hF⟩, hB, hS⟩ := M
  have hk0 : (mk k).1 ≠ 0 := by omega
  exact mx_zld (μ := μ) X ⟨hR, hB, hS⟩ hdg (by rw [(hI.2.1 k hk0).2.1, hk]) (by rw [(hI.2.1 k hk0).2.2]; exact hi) (by rw [vw_a hv hk0]; exact kk)
theorem mm_jld (X : CX T B p m c cc nL s args own) (M : MG (WM T B μ0 o A) B s σ H locs) (k : Nat) (hk : (mk k).1 = 103) (hdg : decode cc pc = .ok (.laload, 1)) {i : Int32} (hi : vp_in i (mk k).2)
    (kk : W p l e R s m args below meth c H locs cells slots Q (F0 m (pc + 1) ls (.long (ml σ k i.toNatClampNeg) :: rest))) : W p l e R s m args below meth c H locs cells slots Q (F0 m pc ls (.int i :: .ref (A k) :: rest)) := by
  obtain ⟨⟨μ, hR, hI, hv, hF⟩, hB, hS⟩ := M
  have hk0 : (mk k).1 ≠ 0 := by omega
  exact mx_jld (μ := μ) X ⟨hR, hB, hS⟩ hdg (by rw [(hI.2.1 k hk0).2.1, hk]) (by rw [(hI.2.1 k hk0).2.2]; exact hi) (by rw [vw_l hv hk0]; exact kk)
theorem mm_ast (X : CX T B p m c cc nL s args own) (M : MG (WM T B μ0 o A) B s σ H locs) (k : Nat) (hk : (mk k).1 = 102) (hdg : decode cc pc = .ok (.iastore, 1)) {i x : Int32} (hi : vp_in i (mk k).2)
    (kk : ∀ (σ1 : MSt) (H1 : Heap) (locs1 : List Loc), σ1 = sma σ k i.toNatClampNeg x → MG (WM T B μ0 o A) B s σ1 H1 locs1 → W p l e R s m args below meth c H1 locs1 cells slots Q (F0 m (pc + 1) ls rest)) : W p l e R s m args below meth c H locs cells slots Q (F0 m pc ls (.int x :: .int i :: .ref (A k) :: rest)) := by
  obtain ⟨⟨μ, hR, hI, hv, hF⟩, hB, hS⟩ := M
  have hk0 : (mk k).1 ≠ 0 := by omega
  refine mx_ast (μ := μ) X ⟨hR, hB, hS⟩ hdg (by rw [(hI.2.1 k hk0).2.1, hk]) (by rw [(hI.2.1 k hk0).2.2]; exact hi) fun H1 locs1 M1 => ?_
  obtain ⟨g1, g2, g3⟩ := IM_puta k i.toNatClampNeg x hk0 hI hv hF
  exact kk _ H1 locs1 rfl ⟨⟨_, M1.1, g1, g2, g3⟩, M1.2⟩
theorem mm_zst (X : CX T B p m c cc nL s args own) (M : MG (WM T B μ0 o A) B s σ H locs) (k : Nat) (hk : (mk k).1 = 104) (hdg : decode cc pc = .ok (.bastore, 1)) {i x : Int32} (hi : vp_in i (mk k).2)
    (kk : ∀ (σ1 : MSt) (H1 : Heap) (locs1 : List Loc), σ1 = sma σ k i.toNatClampNeg (vp_nar .boolean x) → MG (WM T B μ0 o A) B s σ1 H1 locs1 → W p l e R s m args below meth c H1 locs1 cells slots Q (F0 m (pc + 1) ls rest)) : W p l e R s m args below meth c H locs cells slots Q (F0 m pc ls (.int x :: .int i :: .ref (A k) :: rest)) := by
  obtain ⟨⟨μ, hR, hI, hv, hF⟩, hB, hS⟩ := M
  have hk0 : (mk k).1 ≠ 0 := by omega
  refine mx_zst (μ := μ) X ⟨hR, hB, hS⟩ hdg (by rw [(hI.2.1 k hk0).2.1, hk]) (by rw [(hI.2.1 k hk0).2.2]; exact hi) fun H1 locs1 M1 => ?_
  obtain ⟨g1, g2, g3⟩ := IM_puta k i.toNatClampNeg (vp_nar .boolean x) hk0 hI hv hF
  exact kk _ H1 locs1 rfl ⟨⟨_, M1.1, g1, g2, g3⟩, M1.2⟩
theorem mm_jst (X : CX T B p m c cc nL s args own) (M : MG (WM T B μ0 o A) B s σ H locs) (k : Nat) (hk : (mk k).1 = 103) (hdg : decode cc pc = .ok (.lastore, 1)) {i : Int32} {x : Int64} (hi : vp_in i (mk k).2)
    (kk : ∀ (σ1 : MSt) (H1 : Heap) (locs1 : List Loc), σ1 = sml σ k i.toNatClampNeg x → MG (WM T B μ0 o A) B s σ1 H1 locs1 → W p l e R s m args below meth c H1 locs1 cells slots Q (F0 m (pc + 1) ls rest)) : W p l e R s m args below meth c H locs cells slots Q (F0 m pc ls (.long x :: .int i :: .ref (A k) :: rest)) := by
  obtain ⟨⟨μ, hR, hI, hv, hF⟩, hB, hS⟩ := M
  have hk0 : (mk k).1 ≠ 0 := by omega
  refine mx_jst (μ := μ) X ⟨hR, hB, hS⟩ hdg (by rw [(hI.2.1 k hk0).2.1, hk]) (by rw [(hI.2.1 k hk0).2.2]; exact hi) fun H1 locs1 M1 => ?_
  obtain ⟨g1, g2, g3⟩ := IM_putl k i.toNatClampNeg x hk0 hI hv hF
  exact kk _ H1 locs1 rfl ⟨⟨_, M1.1, g1, g2, g3⟩, M1.2⟩
end MROWS
end
section
/-! references that may be null; stores with a name for what is held afterwards -/
theorem mq_cat (r : Option Nat) : (va_rf r).category = 1 := by cases r <;> rfl
theorem mq_no (n : String) (r : Option Nat) : narrow (.object n) (va_rf r) = va_rf r := by cases r <;> rfl
theorem mq_na (t : FieldType) (r : Option Nat) : narrow (.array t) (va_rf r) = va_rf r := by cases r <;> rfl
theorem mq_fo (n : String) (r : Option Nat) : fits (.object n) (va_rf r) = true := by cases r <;> rfl
theorem mq_fa (t : FieldType) (r : Option Nat) : fits (.array t) (va_rf r) = true := by cases r <;> rfl
theorem kd_nob {μ : Mem} {c q : Nat} : kd (nob μ c q) q = c + 1 := by simp [kd, nob, va_up]
theorem kd_nar {μ : Mem} {t q n : Nat} : kd (nar μ t q n) q = t := by simp [kd, nar, va_up]
section QROWS
variable {T : Tb} {B : Nat} {p : Program} {l : Launch} {e : Env} {R : Room} {s : State} {m : MethodId} {args : Array Value} {below : List Frame} {meth : Method} {c : Code} {H : Heap} {locs : List Loc} {cells slots : Nat} {Q : State → Prop}
variable {cc : ByteArray} {nL pc : Nat} {own : String} {ls : Array Slot} {rest : List Value} {μ : Mem} {a : Nat}
theorem mq_aload_n (hexec : p.tables.exec = Jvm.exec) (hb : c.code = cc) {k : Fin 4} {i : Nat} {r : Option Nat} (hdg : decode cc pc = .ok (.aload_n k, 1)) (hi : (k : Nat) = i) (hl : ls[i]? = some (.val (va_rf r)))
    (kk : W p l e R s m args below meth c H locs cells slots Q (F0 m (pc + 1) ls (va_rf r :: rest))) : W p l e R s m args below meth c H locs cells slots Q (F0 m pc ls (rest)) := by
  cases r with
  | none => exact lv_aload_nN hexec hb hdg hi hl kk
  | some x => exact lv_aload_n hexec hb hdg hi hl kk
theorem mq_aload (hexec : p.tables.exec = Jvm.exec) (hb : c.code = cc) {i : Nat} {r : Option Nat} (hdg : decode cc pc = .ok (.aload i, 2)) (hl : ls[i]? = some (.val (va_rf r)))
    (kk : W p l e R s m args below meth c H locs cells slots Q (F0 m (pc + 2) ls (va_rf r :: rest))) : W p l e R s m args below meth c H locs cells slots Q (F0 m pc ls (rest)) := by
  cases r with
  | none => exact lv_aloadN hexec hb hdg hl kk
  | some x => exact lv_aload hexec hb hdg hl kk
theorem mq_astore_n (hexec : p.tables.exec = Jvm.exec) (hb : c.code = cc) {k : Fin 4} {i nL : Nat} {r : Option Nat} {lv lv' : List (Nat × Value)} (hdg : decode cc pc = .ok (.astore_n k, 1)) (hi : (k : Nat) = i) (h : lv_has ls nL lv) (hn : i < nL) (hl : (i, va_rf r) :: lv.filter (fun q => !(q.1 == i) && !(q.1 + 1 == i && q.2.category == 2)) = lv')
    (kk : ∀ ls' : Array Slot, lv_has ls' nL lv' → W p l e R s m args below meth c H locs cells slots Q (F0 m (pc + 1) ls' rest)) : W p l e R s m args below meth c H locs cells slots Q (F0 m pc ls (va_rf r :: rest)) := by
  cases r with
  | none => exact lv_astore_nN hexec hb hdg hi h hn hl kk
  | some x => exact lv_astore_n hexec hb hdg hi h hn hl kk
theorem mq_astore (hexec : p.tables.exec = Jvm.exec) (hb : c.code = cc) {i nL : Nat} {r : Option Nat} {lv lv' : List (Nat × Value)} (hdg : decode cc pc = .ok (.astore i, 2)) (h : lv_has ls nL lv) (hn : i < nL) (hl : (i, va_rf r) :: lv.filter (fun q => !(q.1 == i) && !(q.1 + 1 == i && q.2.category == 2)) = lv')
    (kk : ∀ ls' : Array Slot, lv_has ls' nL lv' → W p l e R s m args below meth c H locs cells slots Q (F0 m (pc + 2) ls' rest)) : W p l e R s m args below meth c H locs cells slots Q (F0 m pc ls (va_rf r :: rest)) := by
  cases r with
  | none => exact lv_astoreN hexec hb hdg h hn hl kk
  | some x => exact lv_astore hexec hb hdg h hn hl kk
theorem my_puti (X : CX T B p m c cc nL s args own) (M : MS T B s μ H locs) {C : String} {F : u_T} {N ci index : Nat} (k : Nat) (hc : vwCl[ci]? = some (C, F, N)) (hin : ∀ w ∈ u_ws C F N, w ∈ G) (ty : Nat → FieldType) (hty : ∀ k, k < N → parseFieldDescriptor (F k).2.2.1 = some (ty k)) (hnm : ∀ a, a < N → ∀ b, b < N → a ≠ b → (F a).2.1 ≠ (F b).2.1) (hN : k < N) (hs : (sg ci)[k]? = some false) (hci : ci < 100)
    (hlink : Cond.fieldLink own index (F k).1 (F k).2.1 (F k).2.2.1 ∈ G) (hfin : (F k).2.2.2 = false ∨ (meth.name = "<init>" ∧ (F k).1 = own)) (hdg : decode cc pc = .ok (.putfield index, 3)) (ha : kd μ a = ci + 1) {v : Int32} (hn : narrow (ty k) (.int v) = .int v) (hf : fits (ty k) (.int v) = true)
    (kk : ∀ (μ1 : Mem) (H1 : Heap) (locs1 : List Loc), μ1 = sfi μ ci k a v → MS T B s μ1 H1 locs1 → W p l e R s m args below meth c H1 locs1 cells slots Q (F0 m (pc + 3) ls rest)) : W p l e R s m args below meth c H locs cells slots Q (F0 m pc ls (.int v :: .ref a :: rest)) := by
  by_cases h : (F k).2.2.2 = false
  · exact mx_puti X M k hc hin ty hty hnm hN hs hci hlink h hdg ha hn hf (fun H1 locs1 M1 => kk _ H1 locs1 rfl M1)
  · have h2 : (F k).2.2.2 = true := by simpa using h
    rcases hfin with q | q
    · exact absurd q h
    · exact mx_putiF X M k hc hin ty hty hnm hN hs hci hlink h2 q.1 q.2 hdg ha hn hf (fun H1 locs1 M1 => kk _ H1 locs1 rfl M1)
theorem my_putr (X : CX T B p m c cc nL s args own) (M : MS T B s μ H locs) {C : String} {F : u_T} {N ci index : Nat} (k : Nat) (hc : vwCl[ci]? = some (C, F, N)) (hin : ∀ w ∈ u_ws C F N, w ∈ G) (ty : Nat → FieldType) (hty : ∀ k, k < N → parseFieldDescriptor (F k).2.2.1 = some (ty k)) (hnm : ∀ a, a < N → ∀ b, b < N → a ≠ b → (F a).2.1 ≠ (F b).2.1) (hN : k < N) (hs : (sg ci)[k]? = some true) (hci : ci < 100)
    (hlink : Cond.fieldLink own index (F k).1 (F k).2.1 (F k).2.2.1 ∈ G) (hfin : (F k).2.2.2 = false ∨ (meth.name = "<init>" ∧ (F k).1 = own)) (hdg : decode cc pc = .ok (.putfield index, 3)) (ha : kd μ a = ci + 1) (v : Option Nat) (hn : narrow (ty k) (va_rf v) = va_rf v) (hf : fits (ty k) (va_rf v) = true)
    (kk : ∀ (μ1 : Mem) (H1 : Heap) (locs1 : List Loc), μ1 = sfr μ ci k a v → MS T B s μ1 H1 locs1 → W p l e R s m args below meth c H1 locs1 cells slots Q (F0 m (pc + 3) ls rest)) : W p l e R s m args below meth c H locs cells slots Q (F0 m pc ls (va_rf v :: .ref a :: rest)) := by
  by_cases h : (F k).2.2.2 = false
  · exact mx_putr X M k hc hin ty hty hnm hN hs hci hlink h hdg ha hn hf (fun H1 locs1 M1 => kk _ H1 locs1 rfl M1)
  · have h2 : (F k).2.2.2 = true := by simpa using h
    rcases hfin with q | q
    · exact absurd q h
    · exact mx_putrF X M k hc hin ty hty hnm hN hs hci hlink h2 q.1 q.2 hdg ha hn hf (fun H1 locs1 M1 => kk _ H1 locs1 rfl M1)
theorem my_new (X : CX T B p m c cc nL s args own) (M : MS T B s μ H locs) {C : String} {F : u_T} {N ci index : Nat} (hc : vwCl[ci]? = some (C, F, N)) (hin : ∀ w ∈ u_ws C F N, w ∈ G) (ty : Nat → FieldType) (hty : ∀ k, k < N → parseFieldDescriptor (F k).2.2.1 = some (ty k)) (hfs : ∀ j, j < N → defaultValue (ty j) = vp_V (fs0 ci) j) (hci : ci < 100)
    (hlink : Cond.classLink own index C ∈ G) (hinst : Cond.instantiable C N ∈ G) (hini : Cond.initialized C ∈ G) (hdg : decode cc pc = .ok (.new index, 3)) (h1 : cells + 1 ≤ R.cells) (h2 : slots + N ≤ R.slots)
    (kk : ∀ (q : Nat) (μ1 : Mem) (H1 : Heap), kd μ q = 0 → μ1 = nob μ ci q → MS T B s μ1 H1 locs → W p l e R s m args below meth c H1 locs (cells + 1) (slots + N) Q (F0 m (pc + 3) ls (.ref q :: rest))) : W p l e R s m args below meth c H locs cells slots Q (F0 m pc ls rest) :=
  mx_new X M hc hin ty hty hfs hci hlink hinst hini hdg h1 h2 (fun q H1 h M1 => kk q _ H1 h rfl M1)
theorem my_newI (X : CX T B p m c cc nL s args own) (M : MS T B s μ H locs) (harr : Cond.arrayClass .int ∈ G) (hdg : decode cc pc = .ok (.newarray .int, 2)) {n : Int32} (hn : ¬ n < 0) (h9 : n.toNatClampNeg ≤ 1048576) (h1 : cells + 1 ≤ R.cells) (h2 : slots + n.toNatClampNeg ≤ R.slots)
    (kk : ∀ (q : Nat) (μ1 : Mem) (H1 : Heap), kd μ q = 0 → μ1 = nar μ 102 q n.toNatClampNeg → MS T B s μ1 H1 locs → W p l e R s m args below meth c H1 locs (cells + 1) (slots + n.toNatClampNeg) Q (F0 m (pc + 2) ls (.ref q :: rest))) : W p l e R s m args below meth c H locs cells slots Q (F0 m pc ls (.int n :: rest)) :=
  mx_newI X M harr hdg hn h9 h1 h2 (fun q H1 h M1 => kk q _ H1 h rfl M1)
theorem my_newJ (X : CX T B p m c cc nL s args own) (M : MS T B s μ H locs) (harr : Cond.arrayClass .long ∈ G) (hdg : decode cc pc = .ok (.newarray .long, 2)) {n : Int32} (hn : ¬ n < 0) (h9 : n.toNatClampNeg ≤ 1048576) (h1 : cells + 1 ≤ R.cells) (h2 : slots + n.toNatClampNeg ≤ R.slots)
    (kk : ∀ (q : Nat) (μ1 : Mem) (H1 : Heap), kd μ q = 0 → μ1 = nar μ 103 q n.toNatClampNeg → MS T B s μ1 H1 locs → W p l e R s m args below meth c H1 locs (cells + 1) (slots + n.toNatClampNeg) Q (F0 m (pc + 2) ls (.ref q :: rest))) : W p l e R s m args below meth c H locs cells slots Q (F0 m pc ls (.int n :: rest)) :=
  mx_newJ X M harr hdg hn h9 h1 h2 (fun q H1 h M1 => kk q _ H1 h rfl M1)
theorem my_newB (X : CX T B p m c cc nL s args own) (M : MS T B s μ H locs) (harr : Cond.arrayClass .byte ∈ G) (hdg : decode cc pc = .ok (.newarray .byte, 2)) {n : Int32} (hn : ¬ n < 0) (h9 : n.toNatClampNeg ≤ 1048576) (h1 : cells + 1 ≤ R.cells) (h2 : slots + n.toNatClampNeg ≤ R.slots)
    (kk : ∀ (q : Nat) (μ1 : Mem) (H1 : Heap), kd μ q = 0 → μ1 = nar μ 101 q n.toNatClampNeg → MS T B s μ1 H1 locs → W p l e R s m args below meth c H1 locs (cells + 1) (slots + n.toNatClampNeg) Q (F0 m (pc + 2) ls (.ref q :: rest))) : W p l e R s m args below meth c H locs cells slots Q (F0 m pc ls (.int n :: rest)) :=
  mx_newB X M harr hdg hn h9 h1 h2 (fun q H1 h M1 => kk q _ H1 h rfl M1)
theorem my_newZ (X : CX T B p m c cc nL s args own) (M : MS T B s μ H locs) (harr : Cond.arrayClass .boolean ∈ G) (hdg : decode cc pc = .ok (.newarray .boolean, 2)) {n : Int32} (hn : ¬ n < 0) (h9 : n.toNatClampNeg ≤ 1048576) (h1 : cells + 1 ≤ R.cells) (h2 : slots + n.toNatClampNeg ≤ R.slots)
    (kk : ∀ (q : Nat) (μ1 : Mem) (H1 : Heap), kd μ q = 0 → μ1 = nar μ 104 q n.toNatClampNeg → MS T B s μ1 H1 locs → W p l e R s m args below meth c H1 locs (cells + 1) (slots + n.toNatClampNeg) Q (F0 m (pc + 2) ls (.ref q :: rest))) : W p l e R s m args below meth c H locs cells slots Q (F0 m pc ls (.int n :: rest)) :=
  mx_newZ X M harr hdg hn h9 h1 h2 (fun q H1 h M1 => kk q _ H1 h rfl M1)
theorem my_ast (X : CX T B p m c cc nL s args own) (M : MS T B s μ H locs) (hdg : decode cc pc = .ok (.iastore, 1)) (ha : kd μ a = 102) {i x : Int32} (hi : vp_in i (al μ a))
    (kk : ∀ (μ1 : Mem) (H1 : Heap) (locs1 : List Loc), μ1 = sai μ a i.toNatClampNeg x → MS T B s μ1 H1 locs1 → W p l e R s m args below meth c H1 locs1 cells slots Q (F0 m (pc + 1) ls rest)) : W p l e R s m args below meth c H locs cells slots Q (F0 m pc ls (.int x :: .int i :: .ref a :: rest)) :=
  mx_ast X M hdg ha hi (fun H1 locs1 M1 => kk _ H1 locs1 rfl M1)
theorem my_bst (X : CX T B p m c cc nL s args own) (M : MS T B s μ H locs) (hdg : decode cc pc = .ok (.bastore, 1)) (ha : kd μ a = 101) {i x : Int32} (hi : vp_in i (al μ a))
    (kk : ∀ (μ1 : Mem) (H1 : Heap) (locs1 : List Loc), μ1 = sai μ a i.toNatClampNeg (vp_nar .byte x) → MS T B s μ1 H1 locs1 → W p l e R s m args below meth c H1 locs1 cells slots Q (F0 m (pc + 1) ls rest)) : W p l e R s m args below meth c H locs cells slots Q (F0 m pc ls (.int x :: .int i :: .ref a :: rest)) :=
  mx_bst X M hdg ha hi (fun H1 locs1 M1 => kk _ H1 locs1 rfl M1)
theorem my_jst (X : CX T B p m c cc nL s args own) (M : MS T B s μ H locs) (hdg : decode cc pc = .ok (.lastore, 1)) (ha : kd μ a = 103) {i : Int32} {x : Int64} (hi : vp_in i (al μ a))
    (kk : ∀ (μ1 : Mem) (H1 : Heap) (locs1 : List Loc), μ1 = saj μ a i.toNatClampNeg x → MS T B s μ1 H1 locs1 → W p l e R s m args below meth c H1 locs1 cells slots Q (F0 m (pc + 1) ls rest)) : W p l e R s m args below meth c H locs cells slots Q (F0 m pc ls (.long x :: .int i :: .ref a :: rest)) :=
  mx_jst X M hdg ha hi (fun H1 locs1 M1 => kk _ H1 locs1 rfl M1)
theorem my_max (X : CX T B p m c cc nL s args own) {index : Nat} (hl : Cond.methodLink own index Lib.Math.max.name ∈ G) (hst : Cond.static Lib.Math.max.name ∈ G) (hini : Cond.initialized "java/lang/Math" ∈ G) (hco : Cond.code Lib.Math.max.name Lib.Math.max.code 2 (some .int) ∈ G) (hsz : ls.size = nL)
    (hframes : 1 ≤ R.frames) (hlocals : (rest.map fun v => v.category).sum + 13 ≤ R.locals) (hc : cells ≤ R.cells) (hs : slots ≤ R.slots) {x y : Int32} (hdg : decode cc pc = .ok (.invokestatic index, 3))
    (kk : W p l e R s m args below meth c H locs cells slots Q (F0 m (pc + 3) ls (.int (if x < y then y else x) :: rest))) : W p l e R s m args below meth c H locs cells slots Q (F0 m pc ls (.int y :: .int x :: rest)) := by
  obtain ⟨hx, hb, hml, hown, hts, -⟩ := X
  exact va_mmax hx hb (hml.trans hsz.symm) hown (hts _ hl) (hts _ hst) (hts _ hini) (hts _ hco) hframes hlocals hc hs hdg kk
theorem my_min (X : CX T B p m c cc nL s args own) {index : Nat} (hl : Cond.methodLink own index Lib.Math.min.name ∈ G) (hst : Cond.static Lib.Math.min.name ∈ G) (hini : Cond.initialized "java/lang/Math" ∈ G) (hco : Cond.code Lib.Math.min.name Lib.Math.min.code 2 (some .int) ∈ G) (hsz : ls.size = nL)
    (hframes : 1 ≤ R.frames) (hlocals : (rest.map fun v => v.category).sum + 13 ≤ R.locals) (hc : cells ≤ R.cells) (hs : slots ≤ R.slots) {x y : Int32} (hdg : decode cc pc = .ok (.invokestatic index, 3))
    (kk : W p l e R s m args below meth c H locs cells slots Q (F0 m (pc + 3) ls (.int (if y < x then y else x) :: rest))) : W p l e R s m args below meth c H locs cells slots Q (F0 m pc ls (.int y :: .int x :: rest)) := by
  obtain ⟨hx, hb, hml, hown, hts, -⟩ := X
  exact va_mmin hx hb (hml.trans hsz.symm) hown (hts _ hl) (hts _ hst) (hts _ hini) (hts _ hco) hframes hlocals hc hs hdg kk
theorem my_obj (X : CX T B p m c cc nL s args own) {index : Nat} (hl : Cond.methodLink own index objectInit ∈ G) (hst : Cond.instanceMethod objectInit ∈ G) (hco : Cond.code objectInit ⟨#[0xb1]⟩ 1 none ∈ G) (hsz : ls.size = nL)
    (hframes : 1 ≤ R.frames) (hlocals : 8 + 12 ≤ R.locals) (hcat : (rest.map fun v => v.category).sum ≤ 8) (hdg : decode cc pc = .ok (.invokespecial index, 3))
    (kk : W p l e R s m args below meth c H locs cells slots Q (F0 m (pc + 3) ls rest)) : W p l e R s m args below meth c H locs cells slots Q (F0 m pc ls (.ref a :: rest)) := by
  obtain ⟨hx, hb, hml, hown, hts, -⟩ := X
  exact W.objInit hx hb hown (hts _ hl) (hts _ hst) (hts _ hco) rfl (hsz.trans hml.symm) rfl hdg hframes (Nat.le_trans (Nat.add_le_add_right (lv_room hcat) 12) hlocals) kk
end QROWS
end
section
theorem in_J4 : ∀ w ∈ u_ws RJ4 TJ4 4, w ∈ G := fun w hw => List.mem_filter.mpr ⟨(by decide +kernel : ∀ w ∈ u_ws RJ4 TJ4 4, w ∈ lw_tbl) w hw, (by decide +kernel : ∀ w ∈ u_ws RJ4 TJ4 4, goodWord w = true) w hw⟩
theorem df_J4 : ∀ j, j < 4 → defaultValue (tyJ4 j) = vp_V (fs0 0) j := by decide +kernel
theorem in_Jx4a65c : ∀ w ∈ u_ws RJx4a65c TJx4a65c 3, w ∈ G := fun w hw => List.mem_filter.mpr ⟨(by decide +kernel : ∀ w ∈ u_ws RJx4a65c TJx4a65c 3, w ∈ lw_tbl) w hw, (by decide +kernel : ∀ w ∈ u_ws RJx4a65c TJx4a65c 3, goodWord w = true) w hw⟩
theorem df_Jx4a65c : ∀ j, j < 3 → defaultValue (tyJx4a65c j) = vp_V (fs0 1) j := by decide +kernel
theorem in_X0 : ∀ w ∈ u_ws RX0 TX0 7, w ∈ G := fun w hw => List.mem_filter.mpr ⟨(by decide +kernel : ∀ w ∈ u_ws RX0 TX0 7, w ∈ lw_tbl) w hw, (by decide +kernel : ∀ w ∈ u_ws RX0 TX0 7, goodWord w = true) w hw⟩
theorem df_X0 : ∀ j, j < 7 → defaultValue (tyX0 j) = vp_V (fs0 2) j := by decide +kernel
theorem in_X1 : ∀ w ∈ u_ws RX1 TX1 7, w ∈ G := fun w hw => List.mem_filter.mpr ⟨(by decide +kernel : ∀ w ∈ u_ws RX1 TX1 7, w ∈ lw_tbl) w hw, (by decide +kernel : ∀ w ∈ u_ws RX1 TX1 7, goodWord w = true) w hw⟩
theorem df_X1 : ∀ j, j < 7 → defaultValue (tyX1 j) = vp_V (fs0 3) j := by decide +kernel
theorem in_X2 : ∀ w ∈ u_ws RX2 TX2 4, w ∈ G := fun w hw => List.mem_filter.mpr ⟨(by decide +kernel : ∀ w ∈ u_ws RX2 TX2 4, w ∈ lw_tbl) w hw, (by decide +kernel : ∀ w ∈ u_ws RX2 TX2 4, goodWord w = true) w hw⟩
theorem df_X2 : ∀ j, j < 4 → defaultValue (tyX2 j) = vp_V (fs0 4) j := by decide +kernel
theorem in_X3 : ∀ w ∈ u_ws RX3 TX3 7, w ∈ G := fun w hw => List.mem_filter.mpr ⟨(by decide +kernel : ∀ w ∈ u_ws RX3 TX3 7, w ∈ lw_tbl) w hw, (by decide +kernel : ∀ w ∈ u_ws RX3 TX3 7, goodWord w = true) w hw⟩
theorem df_X3 : ∀ j, j < 7 → defaultValue (tyX3 j) = vp_V (fs0 5) j := by decide +kernel
theorem in_X4 : ∀ w ∈ u_ws RX4 TX4 2, w ∈ G := fun w hw => List.mem_filter.mpr ⟨(by decide +kernel : ∀ w ∈ u_ws RX4 TX4 2, w ∈ lw_tbl) w hw, (by decide +kernel : ∀ w ∈ u_ws RX4 TX4 2, goodWord w = true) w hw⟩
theorem df_X4 : ∀ j, j < 2 → defaultValue (tyX4 j) = vp_V (fs0 6) j := by decide +kernel
theorem in_X5 : ∀ w ∈ u_ws RX5 TX5 5, w ∈ G := fun w hw => List.mem_filter.mpr ⟨(by decide +kernel : ∀ w ∈ u_ws RX5 TX5 5, w ∈ lw_tbl) w hw, (by decide +kernel : ∀ w ∈ u_ws RX5 TX5 5, goodWord w = true) w hw⟩
theorem df_X5 : ∀ j, j < 5 → defaultValue (tyX5 j) = vp_V (fs0 7) j := by decide +kernel
theorem in_X6 : ∀ w ∈ u_ws RX6 TX6 7, w ∈ G := fun w hw => List.mem_filter.mpr ⟨(by decide +kernel : ∀ w ∈ u_ws RX6 TX6 7, w ∈ lw_tbl) w hw, (by decide +kernel : ∀ w ∈ u_ws RX6 TX6 7, goodWord w = true) w hw⟩
theorem df_X6 : ∀ j, j < 7 → defaultValue (tyX6 j) = vp_V (fs0 8) j := by decide +kernel
theorem in_X7 : ∀ w ∈ u_ws RX7 TX7 8, w ∈ G := fun w hw => List.mem_filter.mpr ⟨(by decide +kernel : ∀ w ∈ u_ws RX7 TX7 8, w ∈ lw_tbl) w hw, (by decide +kernel : ∀ w ∈ u_ws RX7 TX7 8, goodWord w = true) w hw⟩
theorem df_X7 : ∀ j, j < 8 → defaultValue (tyX7 j) = vp_V (fs0 9) j := by decide +kernel
theorem in_X8 : ∀ w ∈ u_ws RX8 TX8 2, w ∈ G := fun w hw => List.mem_filter.mpr ⟨(by decide +kernel : ∀ w ∈ u_ws RX8 TX8 2, w ∈ lw_tbl) w hw, (by decide +kernel : ∀ w ∈ u_ws RX8 TX8 2, goodWord w = true) w hw⟩
theorem df_X8 : ∀ j, j < 2 → defaultValue (tyX8 j) = vp_V (fs0 10) j := by decide +kernel
theorem in_X10 : ∀ w ∈ u_ws RX10 TX10 6, w ∈ G := fun w hw => List.mem_filter.mpr ⟨(by decide +kernel : ∀ w ∈ u_ws RX10 TX10 6, w ∈ lw_tbl) w hw, (by decide +kernel : ∀ w ∈ u_ws RX10 TX10 6, goodWord w = true) w hw⟩
theorem df_X10 : ∀ j, j < 6 → defaultValue (tyX10 j) = vp_V (fs0 11) j := by decide +kernel
theorem in_X11 : ∀ w ∈ u_ws RX11 TX11 59, w ∈ G := inX11
theorem df_X11 : ∀ j, j < 59 → defaultValue (tyX11 j) = vp_V (fs0 12) j := by decide +kernel
end
section
/-! rows for the library's own methods: copies of arrays, the static empty array, arrays of Object -/
def cpi (μ : Mem) (a sp b dp n : Nat) : Mem := (kd μ, fi μ, fr μ, al μ, fun x i => if x = b then va_cpy (ai μ a) (ai μ b) sp dp n i else ai μ x i, aj μ, ar μ)
def cpj (μ : Mem) (a sp b dp n : Nat) : Mem := (kd μ, fi μ, fr μ, al μ, ai μ, fun x i => if x = b then va_cpy (aj μ a) (aj μ b) sp dp n i else aj μ x i, ar μ)
def cpr (μ : Mem) (a sp b dp n : Nat) : Mem := (kd μ, fi μ, fr μ, al μ, ai μ, aj μ, fun x i => if x = b then va_cpy (ar μ a) (ar μ b) sp dp n i else ar μ x i)
/-- a copy of the array a at q -/
def cln (μ : Mem) (a q : Nat) : Mem := (va_up (kd μ) q (kd μ a), fi μ, fr μ, va_up (al μ) q (al μ a), fun x i => if x = q then ai μ a i else ai μ x i, fun x i => if x = q then aj μ a i else aj μ x i, fun x i => if x = q then ar μ a i else ar μ x i)
/-- what may lie in a list: Frame, Instruction, Procedure, Redo -/
def isEl (t : Nat) : Prop := t = 4 ∨ t = 6 ∨ t = 8 ∨ t = 9
theorem KM_cln {μ : Mem} {b q : Nat} (hq : kd μ q = 0) : KM μ (cln μ b q) := fun a ha => by
  have : a ≠ q := fun h => ha (h ▸ hq)
  simp [kd, cln, va_up, this]
section JROWS
variable {T : Tb} {B : Nat} {p : Program} {l : Launch} {e : Env} {R : Room} {s : State} {m : MethodId} {args : Array Value} {below : List Frame} {meth : Method} {c : Code} {H : Heap} {locs : List Loc} {cells slots : Nat} {Q : State → Prop}
variable {cc : ByteArray} {nL pc : Nat} {own : String} {ls : Array Slot} {rest : List Value} {μ : Mem} {a b : Nat}
abbrev okcp (own : String) (index : Nat) : Prop := Cond.methodLink own index arraycopyName ∈ G ∧ Cond.native arraycopyName ∈ G ∧ Cond.static arraycopyName ∈ G ∧ Cond.initialized "java/lang/System" ∈ G
theorem my_cpj (X : CX T B p m c cc nL s args own) (M : MS T B s μ H locs) {index : Nat} (hw : okcp own index) (hsz : ls.size = nL) (ha : kd μ a = 103) (hb2 : kd μ b = 103) {sp dp n : Int32} (h1 : ¬ sp < 0) (h2 : ¬ dp < 0) (h3 : ¬ n < 0) (h4 : sp.toNatClampNeg + n.toNatClampNeg ≤ al μ a) (h5 : dp.toNatClampNeg + n.toNatClampNeg ≤ al μ b)
    (hframes : 1 ≤ R.frames) (hlocals : (rest.map fun v => v.category).sum + (nativeFrameWords "java/lang/System" "arraycopy" 5 + 11) ≤ R.locals) (hdg : decode cc pc = .ok (.invokestatic index, 3))
    (kk : ∀ (μ1 : Mem) (H1 : Heap) (locs1 : List Loc), μ1 = cpj μ a sp.toNatClampNeg b dp.toNatClampNeg n.toNatClampNeg → MS T B s μ1 H1 locs1 → W p l e R s m args below meth c H1 locs1 cells slots Q (F0 m (pc + 3) ls rest)) : W p l e R s m args below meth c H locs cells slots Q (F0 m pc ls (.int n :: .int dp :: .ref b :: .int sp :: .ref a :: rest)) := by
  obtain ⟨hx, hb, hml, hown, hts, ⟨hK, -⟩, hSF⟩ := X
  obtain ⟨⟨L, hL, hP, hD, hRs⟩, hB, hS⟩ := M
  have hm := (hL b).mpr ⟨by omega, by omega⟩
  obtain ⟨q, hq⟩ := va_pl_get (X := []) (f := en T μ) hm
  obtain ⟨q0, hq0⟩ := va_pl_get (X := []) (f := en T μ) ((hL a).mpr ⟨by omega, by omega⟩)
  have hqs := hq
  rw [en_j hb2] at hq
  rw [en_j ha] at hq0
  refine va_copyl hx hb (hml.trans hsz.symm) hown (hts _ hw.1) (hts _ hw.2.1) (hts _ hw.2.2.1) (hts _ hw.2.2.2) hK hP hD hS q0 q 2 2 hq0 hq rfl rfl rfl h1 h2 h3 h4 h5 (fun _ _ => rfl) hframes hlocals hdg fun H1 locs1 hP1 hD1 hS1 => kk _ H1 locs1 rfl ⟨?_, hB, hS1⟩
  refine Rl.store (μ' := cpj μ a sp.toNatClampNeg b dp.toNatClampNeg n.toNatClampNeg) hL hRs (fun _ => rfl) hD hm hqs (fun _ => rfl) ?_ (fun x hx => en_congr rfl rfl rfl (by funext i; simp [aj, cpj, hx]) rfl (fun d => rfl)) hP1 hD1
  rw [en_j (show kd (cpj μ a sp.toNatClampNeg b dp.toNatClampNeg n.toNatClampNeg) b = 103 from hb2)]
  have : aj (cpj μ a sp.toNatClampNeg b dp.toNatClampNeg n.toNatClampNeg) b = va_cpy (aj μ a) (aj μ b) sp.toNatClampNeg dp.toNatClampNeg n.toNatClampNeg := by funext i; simp [aj, cpj]
  rw [this]; rfl
theorem my_cpi (X : CX T B p m c cc nL s args own) (M : MS T B s μ H locs) {index : Nat} (hw : okcp own index) (hsz : ls.size = nL) (ha : kd μ a = 102) (hb2 : kd μ b = 102) {sp dp n : Int32} (h1 : ¬ sp < 0) (h2 : ¬ dp < 0) (h3 : ¬ n < 0) (h4 : sp.toNatClampNeg + n.toNatClampNeg ≤ al μ a) (h5 : dp.toNatClampNeg + n.toNatClampNeg ≤ al μ b)
    (hframes : 1 ≤ R.frames) (hlocals : (rest.map fun v => v.category).sum + (nativeFrameWords "java/lang/System" "arraycopy" 5 + 11) ≤ R.locals) (hdg : decode cc pc = .ok (.invokestatic index, 3))
    (kk : ∀ (μ1 : Mem) (H1 : Heap) (locs1 : List Loc), μ1 = cpi μ a sp.toNatClampNeg b dp.toNatClampNeg n.toNatClampNeg → MS T B s μ1 H1 locs1 → W p l e R s m args below meth c H1 locs1 cells slots Q (F0 m (pc + 3) ls rest)) : W p l e R s m args below meth c H locs cells slots Q (F0 m pc ls (.int n :: .int dp :: .ref b :: .int sp :: .ref a :: rest)) := by
  obtain ⟨hx, hb, hml, hown, hts, ⟨hK, -⟩, hSF⟩ := X
  obtain ⟨⟨L, hL, hP, hD, hRs⟩, hB, hS⟩ := M
  have hm := (hL b).mpr ⟨by omega, by omega⟩
  obtain ⟨q, hq⟩ := va_pl_get (X := []) (f := en T μ) hm
  obtain ⟨q0, hq0⟩ := va_pl_get (X := []) (f := en T μ) ((hL a).mpr ⟨by omega, by omega⟩)
  have hqs := hq
  rw [en_i hb2] at hq
  rw [en_i ha] at hq0
  refine va_copyi hx hb (hml.trans hsz.symm) hown (hts _ hw.1) (hts _ hw.2.1) (hts _ hw.2.2.1) (hts _ hw.2.2.2) hK hP hD hS q0 q 1 1 hq0 hq rfl rfl rfl h1 h2 h3 h4 h5 (fun _ _ => rfl) hframes hlocals hdg fun H1 locs1 hP1 hD1 hS1 => kk _ H1 locs1 rfl ⟨?_, hB, hS1⟩
  refine Rl.store (μ' := cpi μ a sp.toNatClampNeg b dp.toNatClampNeg n.toNatClampNeg) hL hRs (fun _ => rfl) hD hm hqs (fun _ => rfl) ?_ (fun x hx => en_congr rfl rfl (by funext i; simp [ai, cpi, hx]) rfl rfl (fun d => rfl)) hP1 hD1
  rw [en_i (show kd (cpi μ a sp.toNatClampNeg b dp.toNatClampNeg n.toNatClampNeg) b = 102 from hb2)]
  have : ai (cpi μ a sp.toNatClampNeg b dp.toNatClampNeg n.toNatClampNeg) b = va_cpy (ai μ a) (ai μ b) sp.toNatClampNeg dp.toNatClampNeg n.toNatClampNeg := by funext i; simp [ai, cpi]
  rw [this]; rfl
theorem my_cpb (X : CX T B p m c cc nL s args own) (M : MS T B s μ H locs) {index : Nat} (hw : okcp own index) (hsz : ls.size = nL) (ha : kd μ a = 101) (hb2 : kd μ b = 101) {sp dp n : Int32} (h1 : ¬ sp < 0) (h2 : ¬ dp < 0) (h3 : ¬ n < 0) (h4 : sp.toNatClampNeg + n.toNatClampNeg ≤ al μ a) (h5 : dp.toNatClampNeg + n.toNatClampNeg ≤ al μ b) (hfit : ∀ i, i < n.toNatClampNeg → fits .byte (.int (ai μ a (sp.toNatClampNeg + i))) = true)
    (hframes : 1 ≤ R.frames) (hlocals : (rest.map fun v => v.category).sum + (nativeFrameWords "java/lang/System" "arraycopy" 5 + 11) ≤ R.locals) (hdg : decode cc pc = .ok (.invokestatic index, 3))
    (kk : ∀ (μ1 : Mem) (H1 : Heap) (locs1 : List Loc), μ1 = cpi μ a sp.toNatClampNeg b dp.toNatClampNeg n.toNatClampNeg → MS T B s μ1 H1 locs1 → W p l e R s m args below meth c H1 locs1 cells slots Q (F0 m (pc + 3) ls rest)) : W p l e R s m args below meth c H locs cells slots Q (F0 m pc ls (.int n :: .int dp :: .ref b :: .int sp :: .ref a :: rest)) := by
  obtain ⟨hx, hb, hml, hown, hts, ⟨hK, -⟩, hSF⟩ := X
  obtain ⟨⟨L, hL, hP, hD, hRs⟩, hB, hS⟩ := M
  have hm := (hL b).mpr ⟨by omega, by omega⟩
  obtain ⟨q, hq⟩ := va_pl_get (X := []) (f := en T μ) hm
  obtain ⟨q0, hq0⟩ := va_pl_get (X := []) (f := en T μ) ((hL a).mpr ⟨by omega, by omega⟩)
  have hqs := hq
  rw [en_b hb2] at hq
  rw [en_b ha] at hq0
  refine va_copyi hx hb (hml.trans hsz.symm) hown (hts _ hw.1) (hts _ hw.2.1) (hts _ hw.2.2.1) (hts _ hw.2.2.2) hK hP hD hS q0 q 0 0 hq0 hq rfl rfl rfl h1 h2 h3 h4 h5 hfit hframes hlocals hdg fun H1 locs1 hP1 hD1 hS1 => kk _ H1 locs1 rfl ⟨?_, hB, hS1⟩
  refine Rl.store (μ' := cpi μ a sp.toNatClampNeg b dp.toNatClampNeg n.toNatClampNeg) hL hRs (fun _ => rfl) hD hm hqs (fun _ => rfl) ?_ (fun x hx => en_congr rfl rfl (by funext i; simp [ai, cpi, hx]) rfl rfl (fun d => rfl)) hP1 hD1
  rw [en_b (show kd (cpi μ a sp.toNatClampNeg b dp.toNatClampNeg n.toNatClampNeg) b = 101 from hb2)]
  have : ai (cpi μ a sp.toNatClampNeg b dp.toNatClampNeg n.toNatClampNeg) b = va_cpy (ai μ a) (ai μ b) sp.toNatClampNeg dp.toNatClampNeg n.toNatClampNeg := by funext i; simp [ai, cpi]
  rw [this]; rfl
theorem el_any (X : CX T B p m c cc nL s args own) (M : MS T B s μ H locs) {v : Nat} (hv : isEl (kd μ v)) (hca : ∀ C : String, C = RX1 ∨ C = RX3 ∨ C = RX5 ∨ C = RX6 → Cond.castable C "java/lang/Object" ∈ NWl) : va_Any "java/lang/Object" s H v := by
  obtain ⟨hx, hb, hml, hown, hts, ⟨hK, hNw, -⟩, hSF⟩ := X
  obtain ⟨⟨L, hL, hP, hD, hRs⟩, hB, hS⟩ := M
  have hm : v ∈ L := (hL v).mpr (by rcases hv with h | h | h | h <;> exact ⟨by omega, by omega⟩)
  obtain ⟨q, hq⟩ := va_pl_get (X := []) (f := en T μ) hm
  have key : ∀ (ci : Nat) (r : vw_C), kd μ v = ci + 1 → ci < 100 → vwCl[ci]? = some r → Cond.castable r.1 "java/lang/Object" ∈ NWl → va_Any "java/lang/Object" s H v := by
    intro ci r h hci hc hin
    rw [en_o h hci] at hq
    refine va_rAny hK hP hq hc fun comp c0 f1 f2 => ?_
    obtain ⟨c1, t1, g1, g2, g3⟩ := Cond.castable_spec (va_Nw.use (A := args) rfl (hNw _ hin))
    cases f2.symm.trans g1
    cases f1.symm.trans g2
    exact g3
  rcases hv with h | h | h | h
  · exact key 3 _ h (by decide) rfl (hca _ (Or.inl rfl))
  · exact key 5 _ h (by decide) rfl (hca _ (Or.inr (Or.inl rfl)))
  · exact key 7 _ h (by decide) rfl (hca _ (Or.inr (Or.inr (Or.inl rfl))))
  · exact key 8 _ h (by decide) rfl (hca _ (Or.inr (Or.inr (Or.inr rfl))))
theorem el_cast : ∀ C : String, C = RX1 ∨ C = RX3 ∨ C = RX5 ∨ C = RX6 → Cond.castable C "java/lang/Object" ∈ NWl := by
  intro C h
  rcases h with h | h | h | h <;> subst h <;> exact List.mem_filter.mpr ⟨by decide +kernel, by decide +kernel⟩
theorem my_rst (X : CX T B p m c cc nL s args own) (M : MS T B s μ H locs) {v : Nat} (hdg : decode cc pc = .ok (.aastore, 1)) (ha : kd μ a = 105) (hv : isEl (kd μ v)) {i : Int32} (hi : vp_in i (al μ a))
    (kk : ∀ (μ1 : Mem) (H1 : Heap) (locs1 : List Loc), μ1 = sar μ a i.toNatClampNeg (some v) → MS T B s μ1 H1 locs1 → W p l e R s m args below meth c H1 locs1 cells slots Q (F0 m (pc + 1) ls rest)) : W p l e R s m args below meth c H locs cells slots Q (F0 m pc ls (.ref v :: .int i :: .ref a :: rest)) := by
  have hany := el_any X M hv el_cast
  obtain ⟨hx, hb, -, hown, hts, ⟨hK, hNw, -⟩, hSF⟩ := X
  obtain ⟨⟨L, hL, hP, hD, hRs⟩, hB, hS⟩ := M
  have hm := (hL a).mpr ⟨by omega, by omega⟩
  obtain ⟨q, hq⟩ := va_pl_get (X := []) (f := en T μ) hm
  have hq0 := hq
  rw [en_r ha] at hq
  refine va_astqM (E := "java/lang/Object") hx hb hK hP hD hS q 4 hq rfl hany hi hdg fun H1 locs1 hP1 hD1 hS1 => kk _ H1 locs1 rfl ⟨?_, hB, hS1⟩
  refine Rl.store (μ' := sar μ a i.toNatClampNeg (some v)) hL hRs (fun _ => rfl) hD hm hq0 (fun _ => rfl) ?_ (fun b hb => en_congr rfl rfl rfl rfl (sar_o hb) (fun d => fls_sar)) hP1 hD1
  rw [en_r (show kd (sar μ a i.toNatClampNeg (some v)) a = 105 from ha), sar_s]; rfl
theorem my_newR (X : CX T B p m c cc nL s args own) (M : MS T B s μ H locs) {index : Nat} (hlink : Cond.classLink own index "java/lang/Object" ∈ G) (hdg : decode cc pc = .ok (.anewarray index, 3)) {n : Int32} (hn : ¬ n < 0) (h9 : n.toNatClampNeg ≤ 1048576) (h1 : cells + 1 ≤ R.cells) (h2 : slots + n.toNatClampNeg ≤ R.slots)
    (kk : ∀ (q : Nat) (μ1 : Mem) (H1 : Heap), kd μ q = 0 → μ1 = nar μ 105 q n.toNatClampNeg → MS T B s μ1 H1 locs → W p l e R s m args below meth c H1 locs (cells + 1) (slots + n.toNatClampNeg) Q (F0 m (pc + 3) ls (.ref q :: rest))) : W p l e R s m args below meth c H locs cells slots Q (F0 m pc ls (.int n :: rest)) := by
  obtain ⟨hx, hb, -, hown, hts, ⟨hK, -, -, hAO⟩, hSF⟩ := X
  obtain ⟨⟨L, hL, hP, hD, hRs⟩, hB, hS⟩ := M
  refine va_newq hx hb hown (hts _ hlink) hAO hK hP hD hS (fun q h => Nat.le_trans hB h) hn rfl (by omega) h1 h2 hdg fun q cA H1 hK1 hP1 hD1 hS1 => ?_
  have hcA : cA = T.2.2.2.2.2.1 := by
    obtain ⟨_, _, _, _, _, e1⟩ := (hK1.2 5 (cA, .object "java/lang/Object") rfl).2
    obtain ⟨_, _, _, _, _, e2⟩ := (hK.2 4 (T.2.2.2.2.2.1, .object "java/lang/Object") rfl).2
    exact Option.some.inj (e1.symm.trans e2)
  subst hcA
  have hq : q ∉ L := va_pl_fresh2 (X := []) hD1
  have hkq : kd μ q = 0 := Rs.fresh hSF hRs hL hq (vaD_last hD1)
  refine kk q _ H1 hkq rfl ⟨?_, hB, hS1⟩
  have hk1 : kd (nar μ 105 q n.toNatClampNeg) q = 105 := by simp [kd, nar, va_up]
  refine Rl.made (μ' := nar μ 105 q n.toNatClampNeg) hL hRs hkq (fun b hb => by simp [al, nar, va_up, hb]) hq (by decide) (by decide) hk1 (fun b hb => by simp [kd, nar, va_up, hb]) ?_ (fun b hb => nar_en hb) hP1 hD1
  rw [en_r hk1]
  have : ar (nar μ 105 q n.toNatClampNeg) q = fun _ => none := by funext j; simp [ar, nar]
  rw [this]
  simp [al, nar, va_up]
/-- the static empty array of ArrayList -/
theorem my_stE (X : CX T B p m c cc nL s args own) (M : MS T B s μ H locs) {index : Nat} (hlink : Cond.fieldLink own index "java/util/ArrayList" "DEFAULTCAPACITY_EMPTY_ELEMENTDATA" "[Ljava/lang/Object;" ∈ G) (hdg : decode cc pc = .ok (.getstatic index, 3))
    (kk : ∀ q : Nat, kd μ q = 106 → W p l e R s m args below meth c H locs cells slots Q (F0 m (pc + 3) ls (.ref q :: rest))) : W p l e R s m args below meth c H locs cells slots Q (F0 m pc ls rest) := by
  obtain ⟨hx, hb, -, hown, hts, ⟨hK, -⟩, hSF⟩ := X
  obtain ⟨⟨L, hL, hP, hD, hRs⟩, hB, hS⟩ := M
  exact va_gets hx hb (hSF.1 _ (List.mem_cons_of_mem _ List.mem_cons_self)) hS hown (hts _ hlink) (fun _ h => h) hdg (kk (st T 0) hRs.2.2.2.2.1)
theorem my_cpr (X : CX T B p m c cc nL s args own) (M : MS T B s μ H locs) {index : Nat} (hw : okcp own index) (hsz : ls.size = nL) (ha : kd μ a = 105) (hb2 : kd μ b = 105) {sp dp n : Int32} (h1 : ¬ sp < 0) (h2 : ¬ dp < 0) (h3 : ¬ n < 0) (h4 : sp.toNatClampNeg + n.toNatClampNeg ≤ al μ a) (h5 : dp.toNatClampNeg + n.toNatClampNeg ≤ al μ b) (t : Nat) (ht : isEl t) (hel : ∀ i y, i < n.toNatClampNeg → ar μ a (sp.toNatClampNeg + i) = some y → kd μ y = t)
    (hframes : 1 ≤ R.frames) (hlocals : (rest.map fun v => v.category).sum + (nativeFrameWords "java/lang/System" "arraycopy" 5 + 11) ≤ R.locals) (hdg : decode cc pc = .ok (.invokestatic index, 3))
    (kk : ∀ (μ1 : Mem) (H1 : Heap) (locs1 : List Loc), μ1 = cpr μ a sp.toNatClampNeg b dp.toNatClampNeg n.toNatClampNeg → MS T B s μ1 H1 locs1 → W p l e R s m args below meth c H1 locs1 cells slots Q (F0 m (pc + 3) ls rest)) : W p l e R s m args below meth c H locs cells slots Q (F0 m pc ls (.int n :: .int dp :: .ref b :: .int sp :: .ref a :: rest)) := by
  have key : ∀ (ci : Nat) (C : String) (F : u_T) (N : Nat), t = ci + 1 → ci < 100 → vwCl[ci]? = some (C, F, N) → Cond.castable C "java/lang/Object" ∈ NWl → W p l e R s m args below meth c H locs cells slots Q (F0 m pc ls (.int n :: .int dp :: .ref b :: .int sp :: .ref a :: rest)) := by
    intro ci C F N htc hci hc hin
    have hrec : ∀ i y, i < n.toNatClampNeg → ar μ a (sp.toNatClampNeg + i) = some y → ∃ cellV : Cell, H[y]? = some cellV ∧ cellV.vm.isStatics = false ∧ s.vm.findClass C = some cellV.cls := fun i y h g => mx_recv X M hc hci (by rw [hel i y h g]; exact htc)
    obtain ⟨hx, hb, hml, hown, hts, ⟨hK, hNw, -⟩, hSF⟩ := X
    obtain ⟨⟨L, hL, hP, hD, hRs⟩, hB, hS⟩ := M
    have hm := (hL b).mpr ⟨by omega, by omega⟩
    obtain ⟨q, hq⟩ := va_pl_get (X := []) (f := en T μ) hm
    obtain ⟨q0, hq0⟩ := va_pl_get (X := []) (f := en T μ) ((hL a).mpr ⟨by omega, by omega⟩)
    have hqs := hq
    rw [en_r hb2] at hq
    rw [en_r ha] at hq0
    refine va_copyq (C := C) hx hb (hml.trans hsz.symm) hown (hts _ hw.1) (hts _ hw.2.1) (hts _ hw.2.2.1) (hts _ hw.2.2.2) hK hP hD hS q0 q 4 4 hq0 hq rfl rfl h1 h2 h3 h4 h5 (fun i h y g => hrec i y h g) (fun comp c0 f1 f2 => ?_) hframes hlocals hdg fun H1 locs1 hP1 hD1 hS1 => kk _ H1 locs1 rfl ⟨?_, hB, hS1⟩
    · obtain ⟨c1, t1, g1, g2, g3⟩ := Cond.castable_spec (va_Nw.use (A := args) rfl (hNw _ hin))
      cases f2.symm.trans g1
      cases f1.symm.trans g2
      exact g3
    · refine Rl.store (μ' := cpr μ a sp.toNatClampNeg b dp.toNatClampNeg n.toNatClampNeg) hL hRs (fun _ => rfl) hD hm hqs (fun _ => rfl) ?_ (fun x hx => en_congr rfl rfl rfl rfl (by funext i; simp [ar, cpr, hx]) (fun d => rfl)) hP1 hD1
      rw [en_r (show kd (cpr μ a sp.toNatClampNeg b dp.toNatClampNeg n.toNatClampNeg) b = 105 from hb2)]
      have : ar (cpr μ a sp.toNatClampNeg b dp.toNatClampNeg n.toNatClampNeg) b = va_cpy (ar μ a) (ar μ b) sp.toNatClampNeg dp.toNatClampNeg n.toNatClampNeg := by funext i; simp [ar, cpr]
      rw [this]; rfl
  rcases ht with h | h | h | h
  · exact key 3 RX1 TX1 7 h (by decide) rfl (el_cast _ (Or.inl rfl))
  · exact key 5 RX3 TX3 7 h (by decide) rfl (el_cast _ (Or.inr (Or.inl rfl)))
  · exact key 7 RX5 TX5 5 h (by decide) rfl (el_cast _ (Or.inr (Or.inr (Or.inl rfl))))
  · exact key 8 RX6 TX6 7 h (by decide) rfl (el_cast _ (Or.inr (Or.inr (Or.inr rfl))))
theorem cln_en {b q x : Nat} (h : x ≠ q) : en T (cln μ b q) x = en T μ x := by
  refine en_congr ?_ ?_ ?_ ?_ ?_ (fun d => rfl)
  · simp [kd, cln, va_up, h]
  · simp [al, cln, va_up, h]
  · funext j; simp [ai, cln, h]
  · funext j; simp [aj, cln, h]
  · funext j; simp [ar, cln, h]
theorem my_clnI (X : CX T B p m c cc nL s args own) (M : MS T B s μ H locs) {index : Nat} (hlink : Cond.methodLink own index ⟨"[I", "clone", "()Ljava/lang/Object;"⟩ ∈ G) (hsame : Cond.sameMethod "[I" "java/lang/Object" "clone" "()Ljava/lang/Object;" ∈ G) (hnat : Cond.native ⟨"java/lang/Object", "clone", "()Ljava/lang/Object;"⟩ ∈ G) (hinst : Cond.instanceMethod ⟨"java/lang/Object", "clone", "()Ljava/lang/Object;"⟩ ∈ G) (hsel : Cond.selects "[I" ⟨"[I", "clone", "()Ljava/lang/Object;"⟩ ⟨"java/lang/Object", "clone", "()Ljava/lang/Object;"⟩ ∈ G) (hcl : Cond.castable "[I" "java/lang/Cloneable" ∈ NWl)
    (hsz : ls.size = nL) (ha : kd μ a = 102) (hframes : 1 ≤ R.frames) (hlocals : (rest.map fun v => v.category).sum + 14 ≤ R.locals) (h1 : cells + 1 ≤ R.cells) (h2 : slots + al μ a ≤ R.slots) (hdg : decode cc pc = .ok (.invokevirtual index, 3))
    (kk : ∀ (q : Nat) (μ1 : Mem) (H1 : Heap), kd μ q = 0 → μ1 = cln μ a q → MS T B s μ1 H1 locs → W p l e R s m args below meth c H1 locs (cells + 1) (slots + al μ a) Q (F0 m (pc + 3) ls (.ref q :: rest))) : W p l e R s m args below meth c H locs cells slots Q (F0 m pc ls (.ref a :: rest)) := by
  obtain ⟨hx, hb, hml, hown, hts, ⟨hK, hNw, -⟩, hSF⟩ := X
  obtain ⟨⟨L, hL, hP, hD, hRs⟩, hB, hS⟩ := M
  obtain ⟨q0, hq0⟩ := va_pl_get (X := []) (f := en T μ) ((hL a).mpr ⟨by omega, by omega⟩)
  rw [en_i ha] at hq0
  refine va_clone (ty := .int) hx hb (hml.trans hsz.symm) hown (hts _ hlink) (hts _ hsame) (hts _ hnat) (hts _ hinst) (hts _ hsel) (hNw _ hcl) hK hP hD hS (fun q h => Nat.le_trans hB h) q0 1 hq0 rfl ((hK.2 1 (T.2.2.1, .int) rfl).2) (fun i v hv => ?_) hframes hlocals h1 h2 hdg fun q H1 hK1 hP1 hD1 hS1 => ?_
  · have hv2 : (arrV T.2.2.1 (al μ a) (fun j => Value.int (ai μ a j))).slots[i]? = some v := hv
    have hlt : i < (arrV T.2.2.1 (al μ a) (fun j => Value.int (ai μ a j))).slots.size := (Array.getElem?_eq_some_iff.mp hv2).1
    rw [arrV_size] at hlt
    rw [arrV_read _ _ hlt] at hv2
    cases hv2
    rfl
  · have hq : q ∉ L := va_pl_fresh2 (X := []) hD1
    have hkq : kd μ q = 0 := Rs.fresh hSF hRs hL hq (vaD_last hD1)
    refine kk q _ H1 hkq rfl ⟨?_, hB, hS1⟩
    have hk1 : kd (cln μ a q) q = 102 := by simp [kd, cln, va_up]; exact ha
    refine Rl.made (μ' := cln μ a q) hL hRs hkq (fun b hb => by simp [al, cln, va_up, hb]) hq (by decide) (by decide) hk1 (fun b hb => by simp [kd, cln, va_up, hb]) ?_ (fun b hb => cln_en hb) hP1 hD1
    rw [en_i hk1]
    have : ai (cln μ a q) q = ai μ a := by funext j; simp [ai, cln]
    rw [this]
    simp [al, cln, va_up]
end JROWS
end
