section
-- ===== PART A: goes FIRST, ahead of the names: the tables' words, and 'selects' of the private methods out of them =====
/-- a private method of a class that the tables say can be made, by its rows of tables_1 -/
def lw_okq (q : MethodName × Nat) : Prop := (q.1.cls ≠ "java/lang/invoke/MethodHandle" ∧ q.1.cls ≠ "java/lang/invoke/VarHandle") ∧ Cond.instantiable q.1.cls q.2 ∈ tables_1 ∧ Cond.privateMethod q.1 ∈ tables_1 ∧ Cond.instanceMethod q.1 ∈ tables_1
theorem lw_p0 : lw_okq (⟨"ReactiveNotebook$Graph", "clearDefiners", "()V"⟩, 7) := ⟨⟨by decide +kernel, by decide +kernel⟩, List.mem_of_getElem? (i := 104) (by decide +kernel), List.mem_of_getElem? (i := 110) (by decide +kernel), List.mem_of_getElem? (i := 111) (by decide +kernel)⟩
theorem lw_p1 : lw_okq (⟨"ReactiveNotebook", "fail", "(I)I"⟩, 6) := ⟨⟨by decide +kernel, by decide +kernel⟩, List.mem_of_getElem? (i := 9) (by decide +kernel), List.mem_of_getElem? (i := 175) (by decide +kernel), List.mem_of_getElem? (i := 176) (by decide +kernel)⟩
theorem lw_p2 : lw_okq (⟨"ReactiveNotebook", "save", "()V"⟩, 6) := ⟨⟨by decide +kernel, by decide +kernel⟩, List.mem_of_getElem? (i := 9) (by decide +kernel), List.mem_of_getElem? (i := 179) (by decide +kernel), List.mem_of_getElem? (i := 180) (by decide +kernel)⟩
theorem lw_p3 : lw_okq (⟨"ReactiveNotebook", "dropOldest", "()V"⟩, 6) := ⟨⟨by decide +kernel, by decide +kernel⟩, List.mem_of_getElem? (i := 9) (by decide +kernel), List.mem_of_getElem? (i := 183) (by decide +kernel), List.mem_of_getElem? (i := 184) (by decide +kernel)⟩
theorem lw_p4 : lw_okq (⟨"ReactiveNotebook", "finishEditing", "()V"⟩, 6) := ⟨⟨by decide +kernel, by decide +kernel⟩, List.mem_of_getElem? (i := 9) (by decide +kernel), List.mem_of_getElem? (i := 203) (by decide +kernel), List.mem_of_getElem? (i := 204) (by decide +kernel)⟩
theorem lw_p5 : lw_okq (⟨"ReactiveNotebook$Graph", "findDefiners", "(LReactiveNotebook$State;)V"⟩, 7) := ⟨⟨by decide +kernel, by decide +kernel⟩, List.mem_of_getElem? (i := 104) (by decide +kernel), List.mem_of_getElem? (i := 211) (by decide +kernel), List.mem_of_getElem? (i := 212) (by decide +kernel)⟩
theorem lw_p6 : lw_okq (⟨"ReactiveNotebook$Graph", "findDependencies", "(LReactiveNotebook$State;)V"⟩, 7) := ⟨⟨by decide +kernel, by decide +kernel⟩, List.mem_of_getElem? (i := 104) (by decide +kernel), List.mem_of_getElem? (i := 216) (by decide +kernel), List.mem_of_getElem? (i := 217) (by decide +kernel)⟩
theorem lw_p7 : lw_okq (⟨"ReactiveNotebook$Graph", "dependencyOn", "(I)I"⟩, 7) := ⟨⟨by decide +kernel, by decide +kernel⟩, List.mem_of_getElem? (i := 104) (by decide +kernel), List.mem_of_getElem? (i := 220) (by decide +kernel), List.mem_of_getElem? (i := 221) (by decide +kernel)⟩
theorem lw_p8 : lw_okq (⟨"ReactiveNotebook$Graph", "closeDependencies", "(I)V"⟩, 7) := ⟨⟨by decide +kernel, by decide +kernel⟩, List.mem_of_getElem? (i := 104) (by decide +kernel), List.mem_of_getElem? (i := 231) (by decide +kernel), List.mem_of_getElem? (i := 232) (by decide +kernel)⟩
theorem lw_p9 : lw_okq (⟨"ReactiveNotebook$Graph", "findStaticErrors", "(LReactiveNotebook$State;)V"⟩, 7) := ⟨⟨by decide +kernel, by decide +kernel⟩, List.mem_of_getElem? (i := 104) (by decide +kernel), List.mem_of_getElem? (i := 238) (by decide +kernel), List.mem_of_getElem? (i := 239) (by decide +kernel)⟩
theorem lw_p10 : lw_okq (⟨"ReactiveNotebook$Graph", "ownError", "(LReactiveNotebook$Cell;I)I"⟩, 7) := ⟨⟨by decide +kernel, by decide +kernel⟩, List.mem_of_getElem? (i := 104) (by decide +kernel), List.mem_of_getElem? (i := 242) (by decide +kernel), List.mem_of_getElem? (i := 243) (by decide +kernel)⟩
theorem lw_p11 : lw_okq (⟨"ReactiveNotebook$Graph", "isUndefined", "(I)Z"⟩, 7) := ⟨⟨by decide +kernel, by decide +kernel⟩, List.mem_of_getElem? (i := 104) (by decide +kernel), List.mem_of_getElem? (i := 246) (by decide +kernel), List.mem_of_getElem? (i := 247) (by decide +kernel)⟩
theorem lw_p12 : lw_okq (⟨"ReactiveNotebook$Graph", "definersOf", "(I)I"⟩, 7) := ⟨⟨by decide +kernel, by decide +kernel⟩, List.mem_of_getElem? (i := 104) (by decide +kernel), List.mem_of_getElem? (i := 250) (by decide +kernel), List.mem_of_getElem? (i := 251) (by decide +kernel)⟩
theorem lw_p13 : lw_okq (⟨"ReactiveNotebook$Graph", "spreadBadInput", "(LReactiveNotebook$State;I)V"⟩, 7) := ⟨⟨by decide +kernel, by decide +kernel⟩, List.mem_of_getElem? (i := 104) (by decide +kernel), List.mem_of_getElem? (i := 254) (by decide +kernel), List.mem_of_getElem? (i := 255) (by decide +kernel)⟩
theorem lw_p14 : lw_okq (⟨"ReactiveNotebook$Graph", "buildRunOrder", "(I)V"⟩, 7) := ⟨⟨by decide +kernel, by decide +kernel⟩, List.mem_of_getElem? (i := 104) (by decide +kernel), List.mem_of_getElem? (i := 258) (by decide +kernel), List.mem_of_getElem? (i := 259) (by decide +kernel)⟩
theorem lw_p15 : lw_okq (⟨"ReactiveNotebook$Graph", "lowestReady", "(II)I"⟩, 7) := ⟨⟨by decide +kernel, by decide +kernel⟩, List.mem_of_getElem? (i := 104) (by decide +kernel), List.mem_of_getElem? (i := 262) (by decide +kernel), List.mem_of_getElem? (i := 263) (by decide +kernel)⟩
def lw_privs_1 : List (MethodName × Nat) := [(⟨"ReactiveNotebook$Graph", "clearDefiners", "()V"⟩, 7), (⟨"ReactiveNotebook", "fail", "(I)I"⟩, 6), (⟨"ReactiveNotebook", "save", "()V"⟩, 6), (⟨"ReactiveNotebook", "dropOldest", "()V"⟩, 6), (⟨"ReactiveNotebook", "finishEditing", "()V"⟩, 6), (⟨"ReactiveNotebook$Graph", "findDefiners", "(LReactiveNotebook$State;)V"⟩, 7), (⟨"ReactiveNotebook$Graph", "findDependencies", "(LReactiveNotebook$State;)V"⟩, 7), (⟨"ReactiveNotebook$Graph", "dependencyOn", "(I)I"⟩, 7), (⟨"ReactiveNotebook$Graph", "closeDependencies", "(I)V"⟩, 7), (⟨"ReactiveNotebook$Graph", "findStaticErrors", "(LReactiveNotebook$State;)V"⟩, 7), (⟨"ReactiveNotebook$Graph", "ownError", "(LReactiveNotebook$Cell;I)I"⟩, 7), (⟨"ReactiveNotebook$Graph", "isUndefined", "(I)Z"⟩, 7), (⟨"ReactiveNotebook$Graph", "definersOf", "(I)I"⟩, 7), (⟨"ReactiveNotebook$Graph", "spreadBadInput", "(LReactiveNotebook$State;I)V"⟩, 7), (⟨"ReactiveNotebook$Graph", "buildRunOrder", "(I)V"⟩, 7), (⟨"ReactiveNotebook$Graph", "lowestReady", "(II)I"⟩, 7)]
theorem lw_r1 : ∀ q ∈ lw_privs_1, lw_okq q := List.forall_mem_cons.mpr ⟨lw_p0, List.forall_mem_cons.mpr ⟨lw_p1, List.forall_mem_cons.mpr ⟨lw_p2, List.forall_mem_cons.mpr ⟨lw_p3, List.forall_mem_cons.mpr ⟨lw_p4, List.forall_mem_cons.mpr ⟨lw_p5, List.forall_mem_cons.mpr ⟨lw_p6, List.forall_mem_cons.mpr ⟨lw_p7, List.forall_mem_cons.mpr ⟨lw_p8, List.forall_mem_cons.mpr ⟨lw_p9, List.forall_mem_cons.mpr ⟨lw_p10, List.forall_mem_cons.mpr ⟨lw_p11, List.forall_mem_cons.mpr ⟨lw_p12, List.forall_mem_cons.mpr ⟨lw_p13, List.forall_mem_cons.mpr ⟨lw_p14, List.forall_mem_cons.mpr ⟨lw_p15, fun _ h => absurd h List.not_mem_nil⟩⟩⟩⟩⟩⟩⟩⟩⟩⟩⟩⟩⟩⟩⟩⟩
theorem lw_p16 : lw_okq (⟨"ReactiveNotebook", "startLastRun", "()V"⟩, 6) := ⟨⟨by decide +kernel, by decide +kernel⟩, List.mem_of_getElem? (i := 9) (by decide +kernel), List.mem_of_getElem? (i := 266) (by decide +kernel), List.mem_of_getElem? (i := 267) (by decide +kernel)⟩
theorem lw_p17 : lw_okq (⟨"ReactiveNotebook", "walkRunOrder", "(I)V"⟩, 6) := ⟨⟨by decide +kernel, by decide +kernel⟩, List.mem_of_getElem? (i := 9) (by decide +kernel), List.mem_of_getElem? (i := 270) (by decide +kernel), List.mem_of_getElem? (i := 271) (by decide +kernel)⟩
theorem lw_p18 : lw_okq (⟨"ReactiveNotebook", "isUpToDate", "(I)Z"⟩, 6) := ⟨⟨by decide +kernel, by decide +kernel⟩, List.mem_of_getElem? (i := 9) (by decide +kernel), List.mem_of_getElem? (i := 274) (by decide +kernel), List.mem_of_getElem? (i := 275) (by decide +kernel)⟩
theorem lw_p19 : lw_okq (⟨"ReactiveNotebook", "inputVersion", "(I)I"⟩, 6) := ⟨⟨by decide +kernel, by decide +kernel⟩, List.mem_of_getElem? (i := 9) (by decide +kernel), List.mem_of_getElem? (i := 278) (by decide +kernel), List.mem_of_getElem? (i := 279) (by decide +kernel)⟩
theorem lw_p20 : lw_okq (⟨"ReactiveNotebook", "run", "(I)V"⟩, 6) := ⟨⟨by decide +kernel, by decide +kernel⟩, List.mem_of_getElem? (i := 9) (by decide +kernel), List.mem_of_getElem? (i := 284) (by decide +kernel), List.mem_of_getElem? (i := 285) (by decide +kernel)⟩
theorem lw_p21 : lw_okq (⟨"ReactiveNotebook", "inputResult", "(I)I"⟩, 6) := ⟨⟨by decide +kernel, by decide +kernel⟩, List.mem_of_getElem? (i := 9) (by decide +kernel), List.mem_of_getElem? (i := 288) (by decide +kernel), List.mem_of_getElem? (i := 289) (by decide +kernel)⟩
theorem lw_p22 : lw_okq (⟨"ReactiveNotebook", "isCell", "(I)Z"⟩, 6) := ⟨⟨by decide +kernel, by decide +kernel⟩, List.mem_of_getElem? (i := 9) (by decide +kernel), List.mem_of_getElem? (i := 315) (by decide +kernel), List.mem_of_getElem? (i := 316) (by decide +kernel)⟩
theorem lw_p23 : lw_okq (⟨"ReactiveNotebook", "statusOf", "(I)I"⟩, 6) := ⟨⟨by decide +kernel, by decide +kernel⟩, List.mem_of_getElem? (i := 9) (by decide +kernel), List.mem_of_getElem? (i := 372) (by decide +kernel), List.mem_of_getElem? (i := 373) (by decide +kernel)⟩
theorem lw_p24 : lw_okq (⟨"ReactiveNotebook", "freshValueOf", "(I)I"⟩, 6) := ⟨⟨by decide +kernel, by decide +kernel⟩, List.mem_of_getElem? (i := 9) (by decide +kernel), List.mem_of_getElem? (i := 380) (by decide +kernel), List.mem_of_getElem? (i := 381) (by decide +kernel)⟩
theorem lw_p25 : lw_okq (⟨"ReactiveNotebook", "dependentsOf", "(I)I"⟩, 6) := ⟨⟨by decide +kernel, by decide +kernel⟩, List.mem_of_getElem? (i := 9) (by decide +kernel), List.mem_of_getElem? (i := 408) (by decide +kernel), List.mem_of_getElem? (i := 409) (by decide +kernel)⟩
theorem lw_p26 : lw_okq (⟨"ReactiveNotebook", "mixCell", "(JI)J"⟩, 6) := ⟨⟨by decide +kernel, by decide +kernel⟩, List.mem_of_getElem? (i := 9) (by decide +kernel), List.mem_of_getElem? (i := 451) (by decide +kernel), List.mem_of_getElem? (i := 452) (by decide +kernel)⟩
theorem lw_p27 : lw_okq (⟨"ReactiveNotebookModel", "save", "()V"⟩, 12) := ⟨⟨by decide +kernel, by decide +kernel⟩, List.mem_of_getElem? (i := 455) (by decide +kernel), List.mem_of_getElem? (i := 503) (by decide +kernel), List.mem_of_getElem? (i := 504) (by decide +kernel)⟩
theorem lw_p28 : lw_okq (⟨"ReactiveNotebookModel", "runThrough", "(I)V"⟩, 12) := ⟨⟨by decide +kernel, by decide +kernel⟩, List.mem_of_getElem? (i := 455) (by decide +kernel), List.mem_of_getElem? (i := 507) (by decide +kernel), List.mem_of_getElem? (i := 508) (by decide +kernel)⟩
theorem lw_p29 : lw_okq (⟨"ReactiveNotebookModel", "derive", "()V"⟩, 12) := ⟨⟨by decide +kernel, by decide +kernel⟩, List.mem_of_getElem? (i := 455) (by decide +kernel), List.mem_of_getElem? (i := 511) (by decide +kernel), List.mem_of_getElem? (i := 512) (by decide +kernel)⟩
theorem lw_p30 : lw_okq (⟨"ReactiveNotebookModel", "deriveDependencies", "()V"⟩, 12) := ⟨⟨by decide +kernel, by decide +kernel⟩, List.mem_of_getElem? (i := 455) (by decide +kernel), List.mem_of_getElem? (i := 515) (by decide +kernel), List.mem_of_getElem? (i := 516) (by decide +kernel)⟩
theorem lw_p31 : lw_okq (⟨"ReactiveNotebookModel", "get", "(II)I"⟩, 12) := ⟨⟨by decide +kernel, by decide +kernel⟩, List.mem_of_getElem? (i := 455) (by decide +kernel), List.mem_of_getElem? (i := 519) (by decide +kernel), List.mem_of_getElem? (i := 520) (by decide +kernel)⟩
def lw_privs_2 : List (MethodName × Nat) := [(⟨"ReactiveNotebook", "startLastRun", "()V"⟩, 6), (⟨"ReactiveNotebook", "walkRunOrder", "(I)V"⟩, 6), (⟨"ReactiveNotebook", "isUpToDate", "(I)Z"⟩, 6), (⟨"ReactiveNotebook", "inputVersion", "(I)I"⟩, 6), (⟨"ReactiveNotebook", "run", "(I)V"⟩, 6), (⟨"ReactiveNotebook", "inputResult", "(I)I"⟩, 6), (⟨"ReactiveNotebook", "isCell", "(I)Z"⟩, 6), (⟨"ReactiveNotebook", "statusOf", "(I)I"⟩, 6), (⟨"ReactiveNotebook", "freshValueOf", "(I)I"⟩, 6), (⟨"ReactiveNotebook", "dependentsOf", "(I)I"⟩, 6), (⟨"ReactiveNotebook", "mixCell", "(JI)J"⟩, 6), (⟨"ReactiveNotebookModel", "save", "()V"⟩, 12), (⟨"ReactiveNotebookModel", "runThrough", "(I)V"⟩, 12), (⟨"ReactiveNotebookModel", "derive", "()V"⟩, 12), (⟨"ReactiveNotebookModel", "deriveDependencies", "()V"⟩, 12), (⟨"ReactiveNotebookModel", "get", "(II)I"⟩, 12)]
theorem lw_r2 : ∀ q ∈ lw_privs_2, lw_okq q := List.forall_mem_cons.mpr ⟨lw_p16, List.forall_mem_cons.mpr ⟨lw_p17, List.forall_mem_cons.mpr ⟨lw_p18, List.forall_mem_cons.mpr ⟨lw_p19, List.forall_mem_cons.mpr ⟨lw_p20, List.forall_mem_cons.mpr ⟨lw_p21, List.forall_mem_cons.mpr ⟨lw_p22, List.forall_mem_cons.mpr ⟨lw_p23, List.forall_mem_cons.mpr ⟨lw_p24, List.forall_mem_cons.mpr ⟨lw_p25, List.forall_mem_cons.mpr ⟨lw_p26, List.forall_mem_cons.mpr ⟨lw_p27, List.forall_mem_cons.mpr ⟨lw_p28, List.forall_mem_cons.mpr ⟨lw_p29, List.forall_mem_cons.mpr ⟨lw_p30, List.forall_mem_cons.mpr ⟨lw_p31, fun _ h => absurd h List.not_mem_nil⟩⟩⟩⟩⟩⟩⟩⟩⟩⟩⟩⟩⟩⟩⟩⟩
theorem lw_p32 : lw_okq (⟨"ReactiveNotebookModel", "source", "(I)I"⟩, 12) := ⟨⟨by decide +kernel, by decide +kernel⟩, List.mem_of_getElem? (i := 455) (by decide +kernel), List.mem_of_getElem? (i := 526) (by decide +kernel), List.mem_of_getElem? (i := 527) (by decide +kernel)⟩
theorem lw_p33 : lw_okq (⟨"ReactiveNotebookModel", "definersOf", "(I)I"⟩, 12) := ⟨⟨by decide +kernel, by decide +kernel⟩, List.mem_of_getElem? (i := 455) (by decide +kernel), List.mem_of_getElem? (i := 530) (by decide +kernel), List.mem_of_getElem? (i := 531) (by decide +kernel)⟩
theorem lw_p34 : lw_okq (⟨"ReactiveNotebookModel", "deriveErrors", "()V"⟩, 12) := ⟨⟨by decide +kernel, by decide +kernel⟩, List.mem_of_getElem? (i := 455) (by decide +kernel), List.mem_of_getElem? (i := 537) (by decide +kernel), List.mem_of_getElem? (i := 538) (by decide +kernel)⟩
theorem lw_p35 : lw_okq (⟨"ReactiveNotebookModel", "isUndefined", "(I)Z"⟩, 12) := ⟨⟨by decide +kernel, by decide +kernel⟩, List.mem_of_getElem? (i := 455) (by decide +kernel), List.mem_of_getElem? (i := 541) (by decide +kernel), List.mem_of_getElem? (i := 542) (by decide +kernel)⟩
theorem lw_p36 : lw_okq (⟨"ReactiveNotebookModel", "isBad", "(I)Z"⟩, 12) := ⟨⟨by decide +kernel, by decide +kernel⟩, List.mem_of_getElem? (i := 455) (by decide +kernel), List.mem_of_getElem? (i := 545) (by decide +kernel), List.mem_of_getElem? (i := 546) (by decide +kernel)⟩
theorem lw_p37 : lw_okq (⟨"ReactiveNotebookModel", "deriveOrder", "()V"⟩, 12) := ⟨⟨by decide +kernel, by decide +kernel⟩, List.mem_of_getElem? (i := 455) (by decide +kernel), List.mem_of_getElem? (i := 549) (by decide +kernel), List.mem_of_getElem? (i := 550) (by decide +kernel)⟩
theorem lw_p38 : lw_okq (⟨"ReactiveNotebookModel", "isFreshNow", "(I)Z"⟩, 12) := ⟨⟨by decide +kernel, by decide +kernel⟩, List.mem_of_getElem? (i := 455) (by decide +kernel), List.mem_of_getElem? (i := 553) (by decide +kernel), List.mem_of_getElem? (i := 554) (by decide +kernel)⟩
theorem lw_p39 : lw_okq (⟨"ReactiveNotebookModel", "isKnown", "(II)Z"⟩, 12) := ⟨⟨by decide +kernel, by decide +kernel⟩, List.mem_of_getElem? (i := 455) (by decide +kernel), List.mem_of_getElem? (i := 557) (by decide +kernel), List.mem_of_getElem? (i := 558) (by decide +kernel)⟩
theorem lw_p40 : lw_okq (⟨"ReactiveNotebookModel", "runOne", "(I)V"⟩, 12) := ⟨⟨by decide +kernel, by decide +kernel⟩, List.mem_of_getElem? (i := 455) (by decide +kernel), List.mem_of_getElem? (i := 561) (by decide +kernel), List.mem_of_getElem? (i := 562) (by decide +kernel)⟩
theorem lw_p41 : lw_okq (⟨"ReactiveNotebookModel", "compute", "(I)I"⟩, 12) := ⟨⟨by decide +kernel, by decide +kernel⟩, List.mem_of_getElem? (i := 455) (by decide +kernel), List.mem_of_getElem? (i := 565) (by decide +kernel), List.mem_of_getElem? (i := 566) (by decide +kernel)⟩
theorem lw_p42 : lw_okq (⟨"ReactiveNotebookModel", "operandValue", "(I)I"⟩, 12) := ⟨⟨by decide +kernel, by decide +kernel⟩, List.mem_of_getElem? (i := 455) (by decide +kernel), List.mem_of_getElem? (i := 569) (by decide +kernel), List.mem_of_getElem? (i := 570) (by decide +kernel)⟩
theorem lw_p43 : lw_okq (⟨"ReactiveNotebookModel", "exact", "(III)I"⟩, 12) := ⟨⟨by decide +kernel, by decide +kernel⟩, List.mem_of_getElem? (i := 455) (by decide +kernel), List.mem_of_getElem? (i := 573) (by decide +kernel), List.mem_of_getElem? (i := 574) (by decide +kernel)⟩
theorem lw_p44 : lw_okq (⟨"ReactiveNotebookModel", "versionOf", "(I)I"⟩, 12) := ⟨⟨by decide +kernel, by decide +kernel⟩, List.mem_of_getElem? (i := 455) (by decide +kernel), List.mem_of_getElem? (i := 580) (by decide +kernel), List.mem_of_getElem? (i := 581) (by decide +kernel)⟩
theorem lw_p45 : lw_okq (⟨"ReactiveNotebookModel", "isCell", "(I)Z"⟩, 12) := ⟨⟨by decide +kernel, by decide +kernel⟩, List.mem_of_getElem? (i := 455) (by decide +kernel), List.mem_of_getElem? (i := 588) (by decide +kernel), List.mem_of_getElem? (i := 589) (by decide +kernel)⟩
theorem lw_p46 : lw_okq (⟨"ReactiveNotebookModel", "error", "(I)I"⟩, 12) := ⟨⟨by decide +kernel, by decide +kernel⟩, List.mem_of_getElem? (i := 455) (by decide +kernel), List.mem_of_getElem? (i := 592) (by decide +kernel), List.mem_of_getElem? (i := 593) (by decide +kernel)⟩
theorem lw_p47 : lw_okq (⟨"ReactiveNotebookModel", "define", "(IIIII)V"⟩, 12) := ⟨⟨by decide +kernel, by decide +kernel⟩, List.mem_of_getElem? (i := 455) (by decide +kernel), List.mem_of_getElem? (i := 611) (by decide +kernel), List.mem_of_getElem? (i := 612) (by decide +kernel)⟩
def lw_privs_3 : List (MethodName × Nat) := [(⟨"ReactiveNotebookModel", "source", "(I)I"⟩, 12), (⟨"ReactiveNotebookModel", "definersOf", "(I)I"⟩, 12), (⟨"ReactiveNotebookModel", "deriveErrors", "()V"⟩, 12), (⟨"ReactiveNotebookModel", "isUndefined", "(I)Z"⟩, 12), (⟨"ReactiveNotebookModel", "isBad", "(I)Z"⟩, 12), (⟨"ReactiveNotebookModel", "deriveOrder", "()V"⟩, 12), (⟨"ReactiveNotebookModel", "isFreshNow", "(I)Z"⟩, 12), (⟨"ReactiveNotebookModel", "isKnown", "(II)Z"⟩, 12), (⟨"ReactiveNotebookModel", "runOne", "(I)V"⟩, 12), (⟨"ReactiveNotebookModel", "compute", "(I)I"⟩, 12), (⟨"ReactiveNotebookModel", "operandValue", "(I)I"⟩, 12), (⟨"ReactiveNotebookModel", "exact", "(III)I"⟩, 12), (⟨"ReactiveNotebookModel", "versionOf", "(I)I"⟩, 12), (⟨"ReactiveNotebookModel", "isCell", "(I)Z"⟩, 12), (⟨"ReactiveNotebookModel", "error", "(I)I"⟩, 12), (⟨"ReactiveNotebookModel", "define", "(IIIII)V"⟩, 12)]
theorem lw_r3 : ∀ q ∈ lw_privs_3, lw_okq q := List.forall_mem_cons.mpr ⟨lw_p32, List.forall_mem_cons.mpr ⟨lw_p33, List.forall_mem_cons.mpr ⟨lw_p34, List.forall_mem_cons.mpr ⟨lw_p35, List.forall_mem_cons.mpr ⟨lw_p36, List.forall_mem_cons.mpr ⟨lw_p37, List.forall_mem_cons.mpr ⟨lw_p38, List.forall_mem_cons.mpr ⟨lw_p39, List.forall_mem_cons.mpr ⟨lw_p40, List.forall_mem_cons.mpr ⟨lw_p41, List.forall_mem_cons.mpr ⟨lw_p42, List.forall_mem_cons.mpr ⟨lw_p43, List.forall_mem_cons.mpr ⟨lw_p44, List.forall_mem_cons.mpr ⟨lw_p45, List.forall_mem_cons.mpr ⟨lw_p46, List.forall_mem_cons.mpr ⟨lw_p47, fun _ h => absurd h List.not_mem_nil⟩⟩⟩⟩⟩⟩⟩⟩⟩⟩⟩⟩⟩⟩⟩⟩
theorem lw_p48 : lw_okq (⟨"ReactiveNotebookModel", "runIfEager", "()V"⟩, 12) := ⟨⟨by decide +kernel, by decide +kernel⟩, List.mem_of_getElem? (i := 455) (by decide +kernel), List.mem_of_getElem? (i := 615) (by decide +kernel), List.mem_of_getElem? (i := 616) (by decide +kernel)⟩
theorem lw_p49 : lw_okq (⟨"ReactiveNotebookModel", "copyCell", "(II)V"⟩, 12) := ⟨⟨by decide +kernel, by decide +kernel⟩, List.mem_of_getElem? (i := 455) (by decide +kernel), List.mem_of_getElem? (i := 627) (by decide +kernel), List.mem_of_getElem? (i := 628) (by decide +kernel)⟩
theorem lw_p50 : lw_okq (⟨"ReactiveNotebookModel", "ofCell", "(II)I"⟩, 12) := ⟨⟨by decide +kernel, by decide +kernel⟩, List.mem_of_getElem? (i := 455) (by decide +kernel), List.mem_of_getElem? (i := 647) (by decide +kernel), List.mem_of_getElem? (i := 648) (by decide +kernel)⟩
theorem lw_p51 : lw_okq (⟨"ReactiveNotebookModel", "statusOf", "(I)I"⟩, 12) := ⟨⟨by decide +kernel, by decide +kernel⟩, List.mem_of_getElem? (i := 455) (by decide +kernel), List.mem_of_getElem? (i := 655) (by decide +kernel), List.mem_of_getElem? (i := 656) (by decide +kernel)⟩
theorem lw_p52 : lw_okq (⟨"ReactiveNotebookModel", "valueAt", "(I)I"⟩, 12) := ⟨⟨by decide +kernel, by decide +kernel⟩, List.mem_of_getElem? (i := 455) (by decide +kernel), List.mem_of_getElem? (i := 663) (by decide +kernel), List.mem_of_getElem? (i := 664) (by decide +kernel)⟩
theorem lw_p53 : lw_okq (⟨"ReactiveNotebookModel", "dependentsOf", "(I)I"⟩, 12) := ⟨⟨by decide +kernel, by decide +kernel⟩, List.mem_of_getElem? (i := 455) (by decide +kernel), List.mem_of_getElem? (i := 691) (by decide +kernel), List.mem_of_getElem? (i := 692) (by decide +kernel)⟩
theorem lw_p54 : lw_okq (⟨"ReactiveNotebookModel", "mix", "(J)V"⟩, 12) := ⟨⟨by decide +kernel, by decide +kernel⟩, List.mem_of_getElem? (i := 455) (by decide +kernel), List.mem_of_getElem? (i := 724) (by decide +kernel), List.mem_of_getElem? (i := 725) (by decide +kernel)⟩
theorem lw_p55 : lw_okq (⟨"ReactiveNotebookModel", "mixCell", "(I)V"⟩, 12) := ⟨⟨by decide +kernel, by decide +kernel⟩, List.mem_of_getElem? (i := 455) (by decide +kernel), List.mem_of_getElem? (i := 729) (by decide +kernel), List.mem_of_getElem? (i := 730) (by decide +kernel)⟩
def lw_privs_4 : List (MethodName × Nat) := [(⟨"ReactiveNotebookModel", "runIfEager", "()V"⟩, 12), (⟨"ReactiveNotebookModel", "copyCell", "(II)V"⟩, 12), (⟨"ReactiveNotebookModel", "ofCell", "(II)I"⟩, 12), (⟨"ReactiveNotebookModel", "statusOf", "(I)I"⟩, 12), (⟨"ReactiveNotebookModel", "valueAt", "(I)I"⟩, 12), (⟨"ReactiveNotebookModel", "dependentsOf", "(I)I"⟩, 12), (⟨"ReactiveNotebookModel", "mix", "(J)V"⟩, 12), (⟨"ReactiveNotebookModel", "mixCell", "(I)V"⟩, 12)]
theorem lw_r4 : ∀ q ∈ lw_privs_4, lw_okq q := List.forall_mem_cons.mpr ⟨lw_p48, List.forall_mem_cons.mpr ⟨lw_p49, List.forall_mem_cons.mpr ⟨lw_p50, List.forall_mem_cons.mpr ⟨lw_p51, List.forall_mem_cons.mpr ⟨lw_p52, List.forall_mem_cons.mpr ⟨lw_p53, List.forall_mem_cons.mpr ⟨lw_p54, List.forall_mem_cons.mpr ⟨lw_p55, fun _ h => absurd h List.not_mem_nil⟩⟩⟩⟩⟩⟩⟩⟩
def lw_privs : List (MethodName × Nat) := lw_privs_1 ++ (lw_privs_2 ++ (lw_privs_3 ++ (lw_privs_4)))
def lw_tbl : List Cond := k2_sels lw_privs ++ tables_1
theorem lw_privs_ok : ∀ q ∈ lw_privs, lw_okq q := by
  show ∀ q ∈ lw_privs_1 ++ (lw_privs_2 ++ (lw_privs_3 ++ (lw_privs_4))), lw_okq q
  exact List.forall_mem_append.mpr ⟨lw_r1, List.forall_mem_append.mpr ⟨lw_r2, List.forall_mem_append.mpr ⟨lw_r3, lw_r4⟩⟩⟩
-- ===== end of PART A; then your names; then what follows =====
end
section
/-! ===== BEGIN words of one list among another's, by their places ===== -/
theorem goodIn_r {big : List Cond} (ws : List Cond) (ps : List Nat) (hp : ws = ps.filterMap (fun i => big[i]?)) (h : ws.all goodWord = true) : GoodIn big ws := by
  intro w hw
  have h1 := List.all_eq_true.mp h w hw
  rw [hp] at hw
  obtain ⟨i, -, hi⟩ := List.mem_filterMap.mp hw
  have hm : w ∈ big := by first | exact List.mem_of_getElem? hi | exact List.getElem?_mem hi
  exact ⟨hm, good_of_word h1⟩
theorem goodIn_app {big a b : List Cond} (ha : GoodIn big a) (hb : GoodIn big b) : GoodIn big (a ++ b) := fun w h => (List.mem_append.mp h).elim (ha w) (hb w)
theorem goodIn_ca {big a b : List Cond} {c : Cond} (ha : GoodIn big (c :: a)) (hb : GoodIn big b) : GoodIn big (c :: (a ++ b)) := fun w h => (List.mem_cons.mp h).elim (fun e => ha w (List.mem_cons.mpr (Or.inl e))) (fun h => (List.mem_append.mp h).elim (fun h => ha w (List.mem_cons.mpr (Or.inr h))) (hb w))
theorem goodIn_sub {big ws : List Cond} (hm : ∀ w ∈ ws, w ∈ big) (h : ws.all goodWord = true) : GoodIn big ws := fun w hw => ⟨hm w hw, good_of_word (List.all_eq_true.mp h w hw)⟩
/-! ===== END ===== -/

/-! ===== BEGIN printed: names, fields, word lists, decode rows ===== -/
def RX0 : String := "ReactiveNotebook$Cell"
def TX0 : u_T := fun k => match k with
  | 0 => ("ReactiveNotebook$Cell", "variable", "I", false)
  | 1 => ("ReactiveNotebook$Cell", "operator", "I", false)
  | 2 => ("ReactiveNotebook$Cell", "left", "I", false)
  | 3 => ("ReactiveNotebook$Cell", "right", "I", false)
  | 4 => ("ReactiveNotebook$Cell", "result", "I", false)
  | 5 => ("ReactiveNotebook$Cell", "version", "I", false)
  | 6 => ("ReactiveNotebook$Cell", "leftVersion", "I", false)
  | 7 => ("ReactiveNotebook$Cell", "rightVersion", "I", false)
  | _ => ("ReactiveNotebook$Cell", "runs", "I", false)
def tyX0 : Nat → FieldType := fun k => match k with
  | 0 => .int
  | 1 => .int
  | 2 => .int
  | 3 => .int
  | 4 => .int
  | 5 => .int
  | 6 => .int
  | 7 => .int
  | _ => .int
abbrev wsX00 : List Cond := u_ws RX0 TX0 9
theorem nmX0 : ∀ a, a < 9 → ∀ b, b < 9 → a ≠ b → (TX0 a).2.1 ≠ (TX0 b).2.1 := by decide +kernel
theorem tyX0_ok : ∀ k, k < 9 → parseFieldDescriptor (TX0 k).2.2.1 = some (tyX0 k) := by decide +kernel
abbrev cX0_init : ByteArray := prog_2_method_1_code
def yX0_init : MethodName := ⟨RX0, "<init>", "()V"⟩
abbrev cX0_define : ByteArray := prog_2_method_2_code
def yX0_define : MethodName := ⟨RX0, "define", "(IIII)V"⟩
abbrev cX0_copyFrom : ByteArray := prog_2_method_3_code
def yX0_copyFrom : MethodName := ⟨RX0, "copyFrom", "(LReactiveNotebook$Cell;)V"⟩
def RX1 : String := "ReactiveNotebook$Graph"
def TX1 : u_T := fun k => match k with
  | 0 => ("ReactiveNotebook$Graph", "definers", "[I", true)
  | 1 => ("ReactiveNotebook$Graph", "soleDefiners", "[I", true)
  | 2 => ("ReactiveNotebook$Graph", "dependencies", "[I", true)
  | 3 => ("ReactiveNotebook$Graph", "allDependencies", "[I", true)
  | 4 => ("ReactiveNotebook$Graph", "staticErrors", "[I", true)
  | 5 => ("ReactiveNotebook$Graph", "runOrder", "[I", true)
  | _ => ("ReactiveNotebook$Graph", "runnableCount", "I", false)
def tyX1 : Nat → FieldType := fun k => match k with
  | 0 => .array .int
  | 1 => .array .int
  | 2 => .array .int
  | 3 => .array .int
  | 4 => .array .int
  | 5 => .array .int
  | _ => .int
abbrev wsX10 : List Cond := u_ws RX1 TX1 7
theorem nmX1 : ∀ a, a < 7 → ∀ b, b < 7 → a ≠ b → (TX1 a).2.1 ≠ (TX1 b).2.1 := by decide +kernel
theorem tyX1_ok : ∀ k, k < 7 → parseFieldDescriptor (TX1 k).2.2.1 = some (tyX1 k) := by decide +kernel
abbrev cX1_init : ByteArray := prog_3_method_1_code
def yX1_init : MethodName := ⟨RX1, "<init>", "()V"⟩
abbrev cX1_derive : ByteArray := prog_3_method_2_code
def yX1_derive : MethodName := ⟨RX1, "derive", "(LReactiveNotebook$State;)V"⟩
abbrev cX1_soleDefinerOf : ByteArray := prog_3_method_3_code
def yX1_soleDefinerOf : MethodName := ⟨RX1, "soleDefinerOf", "(I)I"⟩
abbrev cX1_definersOf : ByteArray := prog_3_method_4_code
def yX1_definersOf : MethodName := ⟨RX1, "definersOf", "(I)I"⟩
abbrev cX1_clearDefiners : ByteArray := prog_3_method_5_code
def yX1_clearDefiners : MethodName := ⟨RX1, "clearDefiners", "()V"⟩
abbrev cX1_findDefiners : ByteArray := prog_3_method_6_code
def yX1_findDefiners : MethodName := ⟨RX1, "findDefiners", "(LReactiveNotebook$State;)V"⟩
abbrev cX1_findDependencies : ByteArray := prog_3_method_7_code
def yX1_findDependencies : MethodName := ⟨RX1, "findDependencies", "(LReactiveNotebook$State;)V"⟩
abbrev cX1_dependencyOn : ByteArray := prog_3_method_8_code
def yX1_dependencyOn : MethodName := ⟨RX1, "dependencyOn", "(I)I"⟩
abbrev cX1_closeDependencies : ByteArray := prog_3_method_9_code
def yX1_closeDependencies : MethodName := ⟨RX1, "closeDependencies", "(I)V"⟩
abbrev cX1_findStaticErrors : ByteArray := prog_3_method_10_code
def yX1_findStaticErrors : MethodName := ⟨RX1, "findStaticErrors", "(LReactiveNotebook$State;)V"⟩
abbrev cX1_ownError : ByteArray := prog_3_method_11_code
def yX1_ownError : MethodName := ⟨RX1, "ownError", "(LReactiveNotebook$Cell;I)I"⟩
abbrev cX1_isUndefined : ByteArray := prog_3_method_12_code
def yX1_isUndefined : MethodName := ⟨RX1, "isUndefined", "(I)Z"⟩
abbrev cX1_spreadBadInput : ByteArray := prog_3_method_13_code
def yX1_spreadBadInput : MethodName := ⟨RX1, "spreadBadInput", "(LReactiveNotebook$State;I)V"⟩
abbrev cX1_buildRunOrder : ByteArray := prog_3_method_14_code
def yX1_buildRunOrder : MethodName := ⟨RX1, "buildRunOrder", "(I)V"⟩
abbrev cX1_lowestReady : ByteArray := prog_3_method_15_code
def yX1_lowestReady : MethodName := ⟨RX1, "lowestReady", "(II)I"⟩
def RX2 : String := "ReactiveNotebook$State"
def TX2 : u_T := fun k => match k with
  | 0 => ("ReactiveNotebook$State", "cells", "[LReactiveNotebook$Cell;", true)
  | 1 => ("ReactiveNotebook$State", "count", "I", false)
  | 2 => ("ReactiveNotebook$State", "eager", "I", false)
  | 3 => ("ReactiveNotebook$State", "totalRuns", "I", false)
  | 4 => ("ReactiveNotebook$State", "greatestVersion", "I", false)
  | 5 => ("ReactiveNotebook$State", "lastRunCells", "[I", true)
  | _ => ("ReactiveNotebook$State", "lastRunCount", "I", false)
def tyX2 : Nat → FieldType := fun k => match k with
  | 0 => .array (.object "ReactiveNotebook$Cell")
  | 1 => .int
  | 2 => .int
  | 3 => .int
  | 4 => .int
  | 5 => .array .int
  | _ => .int
abbrev wsX20 : List Cond := u_ws RX2 TX2 7
theorem nmX2 : ∀ a, a < 7 → ∀ b, b < 7 → a ≠ b → (TX2 a).2.1 ≠ (TX2 b).2.1 := by decide +kernel
theorem tyX2_ok : ∀ k, k < 7 → parseFieldDescriptor (TX2 k).2.2.1 = some (tyX2 k) := by decide +kernel
abbrev cX2_init : ByteArray := prog_4_method_1_code
def yX2_init : MethodName := ⟨RX2, "<init>", "()V"⟩
abbrev cX2_copyFrom : ByteArray := prog_4_method_2_code
def yX2_copyFrom : MethodName := ⟨RX2, "copyFrom", "(LReactiveNotebook$State;)V"⟩
abbrev cX2_append : ByteArray := prog_4_method_3_code
def yX2_append : MethodName := ⟨RX2, "append", "(IIII)V"⟩
abbrev cX2_remove : ByteArray := prog_4_method_4_code
def yX2_remove : MethodName := ⟨RX2, "remove", "(I)V"⟩
abbrev cX2_move : ByteArray := prog_4_method_5_code
def yX2_move : MethodName := ⟨RX2, "move", "(II)V"⟩
abbrev cX2_recordRun : ByteArray := prog_4_method_6_code
def yX2_recordRun : MethodName := ⟨RX2, "recordRun", "(I)V"⟩
def RX3 : String := "ReactiveNotebook"
def TX3 : u_T := fun k => match k with
  | 0 => ("ReactiveNotebook", "state", "LReactiveNotebook$State;", true)
  | 1 => ("ReactiveNotebook", "saved", "[LReactiveNotebook$State;", true)
  | 2 => ("ReactiveNotebook", "savedCount", "I", false)
  | 3 => ("ReactiveNotebook", "errorCounts", "[I", true)
  | 4 => ("ReactiveNotebook", "graph", "LReactiveNotebook$Graph;", true)
  | _ => ("ReactiveNotebook", "freshCells", "I", false)
def tyX3 : Nat → FieldType := fun k => match k with
  | 0 => .object "ReactiveNotebook$State"
  | 1 => .array (.object "ReactiveNotebook$State")
  | 2 => .int
  | 3 => .array .int
  | 4 => .object "ReactiveNotebook$Graph"
  | _ => .int
abbrev wsX30 : List Cond := u_ws RX3 TX3 6
theorem nmX3 : ∀ a, a < 6 → ∀ b, b < 6 → a ≠ b → (TX3 a).2.1 ≠ (TX3 b).2.1 := by decide +kernel
theorem tyX3_ok : ∀ k, k < 6 → parseFieldDescriptor (TX3 k).2.2.1 = some (tyX3 k) := by decide +kernel
abbrev cX3_init : ByteArray := prog_1_method_1_code
def yX3_init : MethodName := ⟨RX3, "<init>", "()V"⟩
abbrev cX3_addCell : ByteArray := prog_1_method_2_code
def yX3_addCell : MethodName := ⟨RX3, "addCell", "(IIII)I"⟩
abbrev cX3_editCell : ByteArray := prog_1_method_3_code
def yX3_editCell : MethodName := ⟨RX3, "editCell", "(IIIII)I"⟩
abbrev cX3_deleteCell : ByteArray := prog_1_method_4_code
def yX3_deleteCell : MethodName := ⟨RX3, "deleteCell", "(I)I"⟩
abbrev cX3_moveCell : ByteArray := prog_1_method_5_code
def yX3_moveCell : MethodName := ⟨RX3, "moveCell", "(II)I"⟩
abbrev cX3_setEager : ByteArray := prog_1_method_6_code
def yX3_setEager : MethodName := ⟨RX3, "setEager", "(I)I"⟩
abbrev cX3_runStale : ByteArray := prog_1_method_7_code
def yX3_runStale : MethodName := ⟨RX3, "runStale", "()I"⟩
abbrev cX3_runCell : ByteArray := prog_1_method_8_code
def yX3_runCell : MethodName := ⟨RX3, "runCell", "(I)I"⟩
abbrev cX3_lastRunCount : ByteArray := prog_1_method_9_code
def yX3_lastRunCount : MethodName := ⟨RX3, "lastRunCount", "()I"⟩
abbrev cX3_lastRun : ByteArray := prog_1_method_10_code
def yX3_lastRun : MethodName := ⟨RX3, "lastRun", "(I)I"⟩
abbrev cX3_cellCount : ByteArray := prog_1_method_11_code
def yX3_cellCount : MethodName := ⟨RX3, "cellCount", "()I"⟩
abbrev cX3_variable : ByteArray := prog_1_method_12_code
def yX3_variable : MethodName := ⟨RX3, "variable", "(I)I"⟩
abbrev cX3_status : ByteArray := prog_1_method_13_code
def yX3_status : MethodName := ⟨RX3, "status", "(I)I"⟩
abbrev cX3_value : ByteArray := prog_1_method_14_code
def yX3_value : MethodName := ⟨RX3, "value", "(I)I"⟩
abbrev cX3_valueOf : ByteArray := prog_1_method_15_code
def yX3_valueOf : MethodName := ⟨RX3, "valueOf", "(I)I"⟩
abbrev cX3_version : ByteArray := prog_1_method_16_code
def yX3_version : MethodName := ⟨RX3, "version", "(I)I"⟩
abbrev cX3_runs : ByteArray := prog_1_method_17_code
def yX3_runs : MethodName := ⟨RX3, "runs", "(I)I"⟩
abbrev cX3_totalRuns : ByteArray := prog_1_method_18_code
def yX3_totalRuns : MethodName := ⟨RX3, "totalRuns", "()I"⟩
abbrev cX3_dependencies : ByteArray := prog_1_method_19_code
def yX3_dependencies : MethodName := ⟨RX3, "dependencies", "(I)I"⟩
abbrev cX3_dependents : ByteArray := prog_1_method_20_code
def yX3_dependents : MethodName := ⟨RX3, "dependents", "(I)I"⟩
abbrev cX3_definers : ByteArray := prog_1_method_21_code
def yX3_definers : MethodName := ⟨RX3, "definers", "(I)I"⟩
abbrev cX3_runnableCount : ByteArray := prog_1_method_22_code
def yX3_runnableCount : MethodName := ⟨RX3, "runnableCount", "()I"⟩
abbrev cX3_runOrder : ByteArray := prog_1_method_23_code
def yX3_runOrder : MethodName := ⟨RX3, "runOrder", "(I)I"⟩
abbrev cX3_staleCount : ByteArray := prog_1_method_24_code
def yX3_staleCount : MethodName := ⟨RX3, "staleCount", "()I"⟩
abbrev cX3_undo : ByteArray := prog_1_method_25_code
def yX3_undo : MethodName := ⟨RX3, "undo", "()I"⟩
abbrev cX3_errorCount : ByteArray := prog_1_method_26_code
def yX3_errorCount : MethodName := ⟨RX3, "errorCount", "(I)I"⟩
abbrev cX3_digest : ByteArray := prog_1_method_27_code
def yX3_digest : MethodName := ⟨RX3, "digest", "()J"⟩
abbrev cX3_mixCell : ByteArray := prog_1_method_28_code
def yX3_mixCell : MethodName := ⟨RX3, "mixCell", "(JI)J"⟩
abbrev cX3_mix : ByteArray := prog_1_method_29_code
def yX3_mix : MethodName := ⟨RX3, "mix", "(JJ)J"⟩
abbrev cX3_isCell : ByteArray := prog_1_method_30_code
def yX3_isCell : MethodName := ⟨RX3, "isCell", "(I)Z"⟩
abbrev cX3_isVariable : ByteArray := prog_1_method_31_code
def yX3_isVariable : MethodName := ⟨RX3, "isVariable", "(I)Z"⟩
abbrev cX3_isDefinition : ByteArray := prog_1_method_32_code
def yX3_isDefinition : MethodName := ⟨RX3, "isDefinition", "(IIII)Z"⟩
abbrev cX3_isOperand : ByteArray := prog_1_method_33_code
def yX3_isOperand : MethodName := ⟨RX3, "isOperand", "(I)Z"⟩
abbrev cX3_isVariableOperand : ByteArray := prog_1_method_34_code
def yX3_isVariableOperand : MethodName := ⟨RX3, "isVariableOperand", "(I)Z"⟩
abbrev cX3_contains : ByteArray := prog_1_method_35_code
def yX3_contains : MethodName := ⟨RX3, "contains", "(II)Z"⟩
abbrev cX3_fail : ByteArray := prog_1_method_36_code
def yX3_fail : MethodName := ⟨RX3, "fail", "(I)I"⟩
abbrev cX3_save : ByteArray := prog_1_method_37_code
def yX3_save : MethodName := ⟨RX3, "save", "()V"⟩
abbrev cX3_dropOldest : ByteArray := prog_1_method_38_code
def yX3_dropOldest : MethodName := ⟨RX3, "dropOldest", "()V"⟩
abbrev cX3_finishEditing : ByteArray := prog_1_method_39_code
def yX3_finishEditing : MethodName := ⟨RX3, "finishEditing", "()V"⟩
abbrev cX3_startLastRun : ByteArray := prog_1_method_40_code
def yX3_startLastRun : MethodName := ⟨RX3, "startLastRun", "()V"⟩
abbrev cX3_walkRunOrder : ByteArray := prog_1_method_41_code
def yX3_walkRunOrder : MethodName := ⟨RX3, "walkRunOrder", "(I)V"⟩
abbrev cX3_isUpToDate : ByteArray := prog_1_method_42_code
def yX3_isUpToDate : MethodName := ⟨RX3, "isUpToDate", "(I)Z"⟩
abbrev cX3_run : ByteArray := prog_1_method_43_code
def yX3_run : MethodName := ⟨RX3, "run", "(I)V"⟩
abbrev cX3_inputVersion : ByteArray := prog_1_method_44_code
def yX3_inputVersion : MethodName := ⟨RX3, "inputVersion", "(I)I"⟩
abbrev cX3_inputResult : ByteArray := prog_1_method_45_code
def yX3_inputResult : MethodName := ⟨RX3, "inputResult", "(I)I"⟩
abbrev cX3_combine : ByteArray := prog_1_method_46_code
def yX3_combine : MethodName := ⟨RX3, "combine", "(III)I"⟩
abbrev cX3_limit : ByteArray := prog_1_method_47_code
def yX3_limit : MethodName := ⟨RX3, "limit", "(I)I"⟩
abbrev cX3_isErrorResult : ByteArray := prog_1_method_48_code
def yX3_isErrorResult : MethodName := ⟨RX3, "isErrorResult", "(I)Z"⟩
abbrev cX3_statusOf : ByteArray := prog_1_method_49_code
def yX3_statusOf : MethodName := ⟨RX3, "statusOf", "(I)I"⟩
abbrev cX3_freshValueOf : ByteArray := prog_1_method_50_code
def yX3_freshValueOf : MethodName := ⟨RX3, "freshValueOf", "(I)I"⟩
abbrev cX3_dependentsOf : ByteArray := prog_1_method_51_code
def yX3_dependentsOf : MethodName := ⟨RX3, "dependentsOf", "(I)I"⟩
def RX4 : String := "ReactiveNotebookModel"
def TX4 : u_T := fun k => match k with
  | 0 => ("ReactiveNotebookModel", "now", "[I", true)
  | 1 => ("ReactiveNotebookModel", "past", "[I", true)
  | 2 => ("ReactiveNotebookModel", "states", "I", false)
  | 3 => ("ReactiveNotebookModel", "counts", "[I", true)
  | 4 => ("ReactiveNotebookModel", "direct", "[I", true)
  | 5 => ("ReactiveNotebookModel", "wrong", "[I", true)
  | 6 => ("ReactiveNotebookModel", "all", "[I", true)
  | 7 => ("ReactiveNotebookModel", "order", "[I", true)
  | 8 => ("ReactiveNotebookModel", "orderLength", "I", false)
  | 9 => ("ReactiveNotebookModel", "fresh", "[Z", true)
  | 10 => ("ReactiveNotebookModel", "moved", "[I", true)
  | _ => ("ReactiveNotebookModel", "hash", "J", false)
def tyX4 : Nat → FieldType := fun k => match k with
  | 0 => .array .int
  | 1 => .array .int
  | 2 => .int
  | 3 => .array .int
  | 4 => .array .int
  | 5 => .array .int
  | 6 => .array .int
  | 7 => .array .int
  | 8 => .int
  | 9 => .array .boolean
  | 10 => .array .int
  | _ => .long
abbrev wsX40 : List Cond := u_ws RX4 TX4 12
theorem nmX4 : ∀ a, a < 12 → ∀ b, b < 12 → a ≠ b → (TX4 a).2.1 ≠ (TX4 b).2.1 := by decide +kernel
theorem tyX4_ok : ∀ k, k < 12 → parseFieldDescriptor (TX4 k).2.2.1 = some (tyX4 k) := by decide +kernel
abbrev cX4_init : ByteArray := prog_6_method_1_code
def yX4_init : MethodName := ⟨RX4, "<init>", "()V"⟩
abbrev cX4_in : ByteArray := prog_6_method_3_code
def yX4_in : MethodName := ⟨RX4, "in", "(III)Z"⟩
abbrev cX4_error : ByteArray := prog_6_method_4_code
def yX4_error : MethodName := ⟨RX4, "error", "(I)I"⟩
abbrev cX4_at : ByteArray := prog_6_method_5_code
def yX4_at : MethodName := ⟨RX4, "at", "(II)I"⟩
abbrev cX4_get : ByteArray := prog_6_method_6_code
def yX4_get : MethodName := ⟨RX4, "get", "(II)I"⟩
abbrev cX4_isCell : ByteArray := prog_6_method_7_code
def yX4_isCell : MethodName := ⟨RX4, "isCell", "(I)Z"⟩
abbrev cX4_save : ByteArray := prog_6_method_8_code
def yX4_save : MethodName := ⟨RX4, "save", "()V"⟩
abbrev cX4_definersOf : ByteArray := prog_6_method_9_code
def yX4_definersOf : MethodName := ⟨RX4, "definersOf", "(I)I"⟩
abbrev cX4_only : ByteArray := prog_6_method_10_code
def yX4_only : MethodName := ⟨RX4, "only", "(I)I"⟩
abbrev cX4_source : ByteArray := prog_6_method_11_code
def yX4_source : MethodName := ⟨RX4, "source", "(I)I"⟩
abbrev cX4_isUndefined : ByteArray := prog_6_method_12_code
def yX4_isUndefined : MethodName := ⟨RX4, "isUndefined", "(I)Z"⟩
abbrev cX4_isBad : ByteArray := prog_6_method_13_code
def yX4_isBad : MethodName := ⟨RX4, "isBad", "(I)Z"⟩
abbrev cX4_deriveDependencies : ByteArray := prog_6_method_14_code
def yX4_deriveDependencies : MethodName := ⟨RX4, "deriveDependencies", "()V"⟩
abbrev cX4_deriveErrors : ByteArray := prog_6_method_15_code
def yX4_deriveErrors : MethodName := ⟨RX4, "deriveErrors", "()V"⟩
abbrev cX4_deriveOrder : ByteArray := prog_6_method_16_code
def yX4_deriveOrder : MethodName := ⟨RX4, "deriveOrder", "()V"⟩
abbrev cX4_isKnown : ByteArray := prog_6_method_17_code
def yX4_isKnown : MethodName := ⟨RX4, "isKnown", "(II)Z"⟩
abbrev cX4_isFreshNow : ByteArray := prog_6_method_18_code
def yX4_isFreshNow : MethodName := ⟨RX4, "isFreshNow", "(I)Z"⟩
abbrev cX4_derive : ByteArray := prog_6_method_19_code
def yX4_derive : MethodName := ⟨RX4, "derive", "()V"⟩
abbrev cX4_operandValue : ByteArray := prog_6_method_20_code
def yX4_operandValue : MethodName := ⟨RX4, "operandValue", "(I)I"⟩
abbrev cX4_exact : ByteArray := prog_6_method_21_code
def yX4_exact : MethodName := ⟨RX4, "exact", "(III)I"⟩
abbrev cX4_compute : ByteArray := prog_6_method_22_code
def yX4_compute : MethodName := ⟨RX4, "compute", "(I)I"⟩
abbrev cX4_versionOf : ByteArray := prog_6_method_23_code
def yX4_versionOf : MethodName := ⟨RX4, "versionOf", "(I)I"⟩
abbrev cX4_runOne : ByteArray := prog_6_method_24_code
def yX4_runOne : MethodName := ⟨RX4, "runOne", "(I)V"⟩
abbrev cX4_runThrough : ByteArray := prog_6_method_25_code
def yX4_runThrough : MethodName := ⟨RX4, "runThrough", "(I)V"⟩
abbrev cX4_runIfEager : ByteArray := prog_6_method_26_code
def yX4_runIfEager : MethodName := ⟨RX4, "runIfEager", "()V"⟩
abbrev cX4_runStale : ByteArray := prog_6_method_27_code
def yX4_runStale : MethodName := ⟨RX4, "runStale", "()I"⟩
abbrev cX4_runCell : ByteArray := prog_6_method_28_code
def yX4_runCell : MethodName := ⟨RX4, "runCell", "(I)I"⟩
abbrev cX4_lastRunCount : ByteArray := prog_6_method_29_code
def yX4_lastRunCount : MethodName := ⟨RX4, "lastRunCount", "()I"⟩
abbrev cX4_lastRun : ByteArray := prog_6_method_30_code
def yX4_lastRun : MethodName := ⟨RX4, "lastRun", "(I)I"⟩
abbrev cX4_isDefinition : ByteArray := prog_6_method_31_code
def yX4_isDefinition : MethodName := ⟨RX4, "isDefinition", "(IIII)Z"⟩
abbrev cX4_define : ByteArray := prog_6_method_32_code
def yX4_define : MethodName := ⟨RX4, "define", "(IIIII)V"⟩
abbrev cX4_addCell : ByteArray := prog_6_method_33_code
def yX4_addCell : MethodName := ⟨RX4, "addCell", "(IIII)I"⟩
abbrev cX4_editCell : ByteArray := prog_6_method_34_code
def yX4_editCell : MethodName := ⟨RX4, "editCell", "(IIIII)I"⟩
abbrev cX4_copyCell : ByteArray := prog_6_method_35_code
def yX4_copyCell : MethodName := ⟨RX4, "copyCell", "(II)V"⟩
abbrev cX4_deleteCell : ByteArray := prog_6_method_36_code
def yX4_deleteCell : MethodName := ⟨RX4, "deleteCell", "(I)I"⟩
abbrev cX4_moveCell : ByteArray := prog_6_method_37_code
def yX4_moveCell : MethodName := ⟨RX4, "moveCell", "(II)I"⟩
abbrev cX4_setEager : ByteArray := prog_6_method_38_code
def yX4_setEager : MethodName := ⟨RX4, "setEager", "(I)I"⟩
abbrev cX4_cellCount : ByteArray := prog_6_method_39_code
def yX4_cellCount : MethodName := ⟨RX4, "cellCount", "()I"⟩
abbrev cX4_ofCell : ByteArray := prog_6_method_40_code
def yX4_ofCell : MethodName := ⟨RX4, "ofCell", "(II)I"⟩
abbrev cX4_variable : ByteArray := prog_6_method_41_code
def yX4_variable : MethodName := ⟨RX4, "variable", "(I)I"⟩
abbrev cX4_statusOf : ByteArray := prog_6_method_42_code
def yX4_statusOf : MethodName := ⟨RX4, "statusOf", "(I)I"⟩
abbrev cX4_status : ByteArray := prog_6_method_43_code
def yX4_status : MethodName := ⟨RX4, "status", "(I)I"⟩
abbrev cX4_valueAt : ByteArray := prog_6_method_44_code
def yX4_valueAt : MethodName := ⟨RX4, "valueAt", "(I)I"⟩
abbrev cX4_value : ByteArray := prog_6_method_45_code
def yX4_value : MethodName := ⟨RX4, "value", "(I)I"⟩
abbrev cX4_valueOf : ByteArray := prog_6_method_46_code
def yX4_valueOf : MethodName := ⟨RX4, "valueOf", "(I)I"⟩
abbrev cX4_version : ByteArray := prog_6_method_47_code
def yX4_version : MethodName := ⟨RX4, "version", "(I)I"⟩
abbrev cX4_runs : ByteArray := prog_6_method_48_code
def yX4_runs : MethodName := ⟨RX4, "runs", "(I)I"⟩
abbrev cX4_totalRuns : ByteArray := prog_6_method_49_code
def yX4_totalRuns : MethodName := ⟨RX4, "totalRuns", "()I"⟩
abbrev cX4_dependencies : ByteArray := prog_6_method_50_code
def yX4_dependencies : MethodName := ⟨RX4, "dependencies", "(I)I"⟩
abbrev cX4_dependentsOf : ByteArray := prog_6_method_51_code
def yX4_dependentsOf : MethodName := ⟨RX4, "dependentsOf", "(I)I"⟩
abbrev cX4_dependents : ByteArray := prog_6_method_52_code
def yX4_dependents : MethodName := ⟨RX4, "dependents", "(I)I"⟩
abbrev cX4_definers : ByteArray := prog_6_method_53_code
def yX4_definers : MethodName := ⟨RX4, "definers", "(I)I"⟩
abbrev cX4_runnableCount : ByteArray := prog_6_method_54_code
def yX4_runnableCount : MethodName := ⟨RX4, "runnableCount", "()I"⟩
abbrev cX4_runOrder : ByteArray := prog_6_method_55_code
def yX4_runOrder : MethodName := ⟨RX4, "runOrder", "(I)I"⟩
abbrev cX4_staleCount : ByteArray := prog_6_method_56_code
def yX4_staleCount : MethodName := ⟨RX4, "staleCount", "()I"⟩
abbrev cX4_undo : ByteArray := prog_6_method_57_code
def yX4_undo : MethodName := ⟨RX4, "undo", "()I"⟩
abbrev cX4_errorCount : ByteArray := prog_6_method_58_code
def yX4_errorCount : MethodName := ⟨RX4, "errorCount", "(I)I"⟩
abbrev cX4_mix : ByteArray := prog_6_method_59_code
def yX4_mix : MethodName := ⟨RX4, "mix", "(J)V"⟩
abbrev cX4_mixCell : ByteArray := prog_6_method_60_code
def yX4_mixCell : MethodName := ⟨RX4, "mixCell", "(I)V"⟩
abbrev cX4_digest : ByteArray := prog_6_method_61_code
def yX4_digest : MethodName := ⟨RX4, "digest", "()J"⟩
def RJ6 : String := "java/lang/Integer"
def TJ6 : u_T := fun k => match k with
  | _ => ("", "", "", false)
def tyJ6 : Nat → FieldType := fun k => match k with
  | _ => .int
abbrev wsJ60 : List Cond := u_ws RJ6 TJ6 0
theorem nmJ6 : ∀ a, a < 0 → ∀ b, b < 0 → a ≠ b → (TJ6 a).2.1 ≠ (TJ6 b).2.1 := by decide +kernel
theorem tyJ6_ok : ∀ k, k < 0 → parseFieldDescriptor (TJ6 k).2.2.1 = some (tyJ6 k) := by decide +kernel
abbrev cJ6_bitCount_0f7a4 : ByteArray := prog_7_method_49_code
def yJ6_bitCount_0f7a4 : MethodName := ⟨RJ6, "bitCount", "(I)I"⟩
def RJ9 : String := "java/lang/Math"
def TJ9 : u_T := fun k => match k with
  | _ => ("", "", "", false)
def tyJ9 : Nat → FieldType := fun k => match k with
  | _ => .int
abbrev wsJ90 : List Cond := u_ws RJ9 TJ9 0
theorem nmJ9 : ∀ a, a < 0 → ∀ b, b < 0 → a ≠ b → (TJ9 a).2.1 ≠ (TJ9 b).2.1 := by decide +kernel
theorem tyJ9_ok : ∀ k, k < 0 → parseFieldDescriptor (TJ9 k).2.2.1 = some (tyJ9 k) := by decide +kernel
abbrev cJ9_abs_0f7a4 : ByteArray := prog_8_method_59_code
def yJ9_abs_0f7a4 : MethodName := ⟨RJ9, "abs", "(I)I"⟩
abbrev cJ9_max_7cf53 : ByteArray := prog_8_method_65_code
def yJ9_max_7cf53 : MethodName := ⟨RJ9, "max", "(II)I"⟩
abbrev cJ9_min_7cf53 : ByteArray := prog_8_method_69_code
def yJ9_min_7cf53 : MethodName := ⟨RJ9, "min", "(II)I"⟩
def RL : String := "ReactiveNotebookLaw"
abbrev cL_law : ByteArray := code
def yL_law : MethodName := ⟨RL, "law", "([I)Z"⟩
abbrev vwCl : List vw_C := [(RX0, TX0, 9), (RX1, TX1, 7), (RX2, TX2, 7), (RX3, TX3, 6), (RX4, TX4, 12)]
end
section
theorem dX0_init_0 : decode cX0_init 0 = .ok (.aload_n 0, 1) := by decide +kernel
theorem dX0_init_1 : decode cX0_init 1 = .ok (.invokespecial 3, 3) := by decide +kernel
theorem dX0_init_4 : decode cX0_init 4 = .ok (.return_, 1) := by decide +kernel
theorem dX0_define_0 : decode cX0_define 0 = .ok (.aload_n 0, 1) := by decide +kernel
theorem dX0_define_1 : decode cX0_define 1 = .ok (.iload_n 1, 1) := by decide +kernel
theorem dX0_define_2 : decode cX0_define 2 = .ok (.putfield 9, 3) := by decide +kernel
theorem dX0_define_5 : decode cX0_define 5 = .ok (.aload_n 0, 1) := by decide +kernel
theorem dX0_define_6 : decode cX0_define 6 = .ok (.iload_n 2, 1) := by decide +kernel
theorem dX0_define_7 : decode cX0_define 7 = .ok (.putfield 15, 3) := by decide +kernel
theorem dX0_define_10 : decode cX0_define 10 = .ok (.aload_n 0, 1) := by decide +kernel
theorem dX0_define_11 : decode cX0_define 11 = .ok (.iload_n 3, 1) := by decide +kernel
theorem dX0_define_12 : decode cX0_define 12 = .ok (.putfield 18, 3) := by decide +kernel
theorem dX0_define_15 : decode cX0_define 15 = .ok (.aload_n 0, 1) := by decide +kernel
theorem dX0_define_16 : decode cX0_define 16 = .ok (.iload 4, 2) := by decide +kernel
theorem dX0_define_18 : decode cX0_define 18 = .ok (.putfield 21, 3) := by decide +kernel
theorem dX0_define_21 : decode cX0_define 21 = .ok (.aload_n 0, 1) := by decide +kernel
theorem dX0_define_22 : decode cX0_define 22 = .ok (.iconst 0, 1) := by decide +kernel
theorem dX0_define_23 : decode cX0_define 23 = .ok (.putfield 24, 3) := by decide +kernel
theorem dX0_define_26 : decode cX0_define 26 = .ok (.return_, 1) := by decide +kernel
theorem dX0_copyFrom_0 : decode cX0_copyFrom 0 = .ok (.aload_n 0, 1) := by decide +kernel
theorem dX0_copyFrom_1 : decode cX0_copyFrom 1 = .ok (.aload_n 1, 1) := by decide +kernel
theorem dX0_copyFrom_2 : decode cX0_copyFrom 2 = .ok (.getfield 9, 3) := by decide +kernel
theorem dX0_copyFrom_5 : decode cX0_copyFrom 5 = .ok (.putfield 9, 3) := by decide +kernel
theorem dX0_copyFrom_8 : decode cX0_copyFrom 8 = .ok (.aload_n 0, 1) := by decide +kernel
theorem dX0_copyFrom_9 : decode cX0_copyFrom 9 = .ok (.aload_n 1, 1) := by decide +kernel
theorem dX0_copyFrom_10 : decode cX0_copyFrom 10 = .ok (.getfield 15, 3) := by decide +kernel
theorem dX0_copyFrom_13 : decode cX0_copyFrom 13 = .ok (.putfield 15, 3) := by decide +kernel
theorem dX0_copyFrom_16 : decode cX0_copyFrom 16 = .ok (.aload_n 0, 1) := by decide +kernel
theorem dX0_copyFrom_17 : decode cX0_copyFrom 17 = .ok (.aload_n 1, 1) := by decide +kernel
theorem dX0_copyFrom_18 : decode cX0_copyFrom 18 = .ok (.getfield 18, 3) := by decide +kernel
theorem dX0_copyFrom_21 : decode cX0_copyFrom 21 = .ok (.putfield 18, 3) := by decide +kernel
theorem dX0_copyFrom_24 : decode cX0_copyFrom 24 = .ok (.aload_n 0, 1) := by decide +kernel
theorem dX0_copyFrom_25 : decode cX0_copyFrom 25 = .ok (.aload_n 1, 1) := by decide +kernel
theorem dX0_copyFrom_26 : decode cX0_copyFrom 26 = .ok (.getfield 21, 3) := by decide +kernel
theorem dX0_copyFrom_29 : decode cX0_copyFrom 29 = .ok (.putfield 21, 3) := by decide +kernel
theorem dX0_copyFrom_32 : decode cX0_copyFrom 32 = .ok (.aload_n 0, 1) := by decide +kernel
theorem dX0_copyFrom_33 : decode cX0_copyFrom 33 = .ok (.aload_n 1, 1) := by decide +kernel
theorem dX0_copyFrom_34 : decode cX0_copyFrom 34 = .ok (.getfield 27, 3) := by decide +kernel
theorem dX0_copyFrom_37 : decode cX0_copyFrom 37 = .ok (.putfield 27, 3) := by decide +kernel
theorem dX0_copyFrom_40 : decode cX0_copyFrom 40 = .ok (.aload_n 0, 1) := by decide +kernel
theorem dX0_copyFrom_41 : decode cX0_copyFrom 41 = .ok (.aload_n 1, 1) := by decide +kernel
theorem dX0_copyFrom_42 : decode cX0_copyFrom 42 = .ok (.getfield 24, 3) := by decide +kernel
theorem dX0_copyFrom_45 : decode cX0_copyFrom 45 = .ok (.putfield 24, 3) := by decide +kernel
theorem dX0_copyFrom_48 : decode cX0_copyFrom 48 = .ok (.aload_n 0, 1) := by decide +kernel
theorem dX0_copyFrom_49 : decode cX0_copyFrom 49 = .ok (.aload_n 1, 1) := by decide +kernel
theorem dX0_copyFrom_50 : decode cX0_copyFrom 50 = .ok (.getfield 30, 3) := by decide +kernel
theorem dX0_copyFrom_53 : decode cX0_copyFrom 53 = .ok (.putfield 30, 3) := by decide +kernel
theorem dX0_copyFrom_56 : decode cX0_copyFrom 56 = .ok (.aload_n 0, 1) := by decide +kernel
theorem dX0_copyFrom_57 : decode cX0_copyFrom 57 = .ok (.aload_n 1, 1) := by decide +kernel
theorem dX0_copyFrom_58 : decode cX0_copyFrom 58 = .ok (.getfield 33, 3) := by decide +kernel
theorem dX0_copyFrom_61 : decode cX0_copyFrom 61 = .ok (.putfield 33, 3) := by decide +kernel
theorem dX0_copyFrom_64 : decode cX0_copyFrom 64 = .ok (.aload_n 0, 1) := by decide +kernel
theorem dX0_copyFrom_65 : decode cX0_copyFrom 65 = .ok (.aload_n 1, 1) := by decide +kernel
theorem dX0_copyFrom_66 : decode cX0_copyFrom 66 = .ok (.getfield 36, 3) := by decide +kernel
theorem dX0_copyFrom_69 : decode cX0_copyFrom 69 = .ok (.putfield 36, 3) := by decide +kernel
theorem dX0_copyFrom_72 : decode cX0_copyFrom 72 = .ok (.return_, 1) := by decide +kernel
theorem dX1_init_0 : decode cX1_init 0 = .ok (.aload_n 0, 1) := by decide +kernel
theorem dX1_init_1 : decode cX1_init 1 = .ok (.invokespecial 3, 3) := by decide +kernel
theorem dX1_init_4 : decode cX1_init 4 = .ok (.aload_n 0, 1) := by decide +kernel
theorem dX1_init_5 : decode cX1_init 5 = .ok (.bipush 10, 2) := by decide +kernel
theorem dX1_init_7 : decode cX1_init 7 = .ok (.newarray .int, 2) := by decide +kernel
theorem dX1_init_9 : decode cX1_init 9 = .ok (.putfield 9, 3) := by decide +kernel
theorem dX1_init_12 : decode cX1_init 12 = .ok (.aload_n 0, 1) := by decide +kernel
theorem dX1_init_13 : decode cX1_init 13 = .ok (.bipush 10, 2) := by decide +kernel
theorem dX1_init_15 : decode cX1_init 15 = .ok (.newarray .int, 2) := by decide +kernel
theorem dX1_init_17 : decode cX1_init 17 = .ok (.putfield 15, 3) := by decide +kernel
theorem dX1_init_20 : decode cX1_init 20 = .ok (.aload_n 0, 1) := by decide +kernel
theorem dX1_init_21 : decode cX1_init 21 = .ok (.bipush 12, 2) := by decide +kernel
theorem dX1_init_23 : decode cX1_init 23 = .ok (.newarray .int, 2) := by decide +kernel
theorem dX1_init_25 : decode cX1_init 25 = .ok (.putfield 18, 3) := by decide +kernel
theorem dX1_init_28 : decode cX1_init 28 = .ok (.aload_n 0, 1) := by decide +kernel
theorem dX1_init_29 : decode cX1_init 29 = .ok (.bipush 12, 2) := by decide +kernel
theorem dX1_init_31 : decode cX1_init 31 = .ok (.newarray .int, 2) := by decide +kernel
theorem dX1_init_33 : decode cX1_init 33 = .ok (.putfield 21, 3) := by decide +kernel
theorem dX1_init_36 : decode cX1_init 36 = .ok (.aload_n 0, 1) := by decide +kernel
theorem dX1_init_37 : decode cX1_init 37 = .ok (.bipush 12, 2) := by decide +kernel
theorem dX1_init_39 : decode cX1_init 39 = .ok (.newarray .int, 2) := by decide +kernel
theorem dX1_init_41 : decode cX1_init 41 = .ok (.putfield 24, 3) := by decide +kernel
theorem dX1_init_44 : decode cX1_init 44 = .ok (.aload_n 0, 1) := by decide +kernel
theorem dX1_init_45 : decode cX1_init 45 = .ok (.bipush 12, 2) := by decide +kernel
theorem dX1_init_47 : decode cX1_init 47 = .ok (.newarray .int, 2) := by decide +kernel
theorem dX1_init_49 : decode cX1_init 49 = .ok (.putfield 27, 3) := by decide +kernel
theorem dX1_init_52 : decode cX1_init 52 = .ok (.aload_n 0, 1) := by decide +kernel
theorem dX1_init_53 : decode cX1_init 53 = .ok (.iconst 0, 1) := by decide +kernel
theorem dX1_init_54 : decode cX1_init 54 = .ok (.putfield 30, 3) := by decide +kernel
theorem dX1_init_57 : decode cX1_init 57 = .ok (.aload_n 0, 1) := by decide +kernel
theorem dX1_init_58 : decode cX1_init 58 = .ok (.invokevirtual 34, 3) := by decide +kernel
theorem dX1_init_61 : decode cX1_init 61 = .ok (.return_, 1) := by decide +kernel
theorem dX1_derive_0 : decode cX1_derive 0 = .ok (.aload_n 0, 1) := by decide +kernel
theorem dX1_derive_1 : decode cX1_derive 1 = .ok (.aload_n 1, 1) := by decide +kernel
theorem dX1_derive_2 : decode cX1_derive 2 = .ok (.invokevirtual 37, 3) := by decide +kernel
theorem dX1_derive_5 : decode cX1_derive 5 = .ok (.aload_n 0, 1) := by decide +kernel
theorem dX1_derive_6 : decode cX1_derive 6 = .ok (.aload_n 1, 1) := by decide +kernel
theorem dX1_derive_7 : decode cX1_derive 7 = .ok (.invokevirtual 41, 3) := by decide +kernel
theorem dX1_derive_10 : decode cX1_derive 10 = .ok (.aload_n 0, 1) := by decide +kernel
theorem dX1_derive_11 : decode cX1_derive 11 = .ok (.aload_n 1, 1) := by decide +kernel
theorem dX1_derive_12 : decode cX1_derive 12 = .ok (.getfield 44, 3) := by decide +kernel
theorem dX1_derive_15 : decode cX1_derive 15 = .ok (.invokevirtual 49, 3) := by decide +kernel
theorem dX1_derive_18 : decode cX1_derive 18 = .ok (.aload_n 0, 1) := by decide +kernel
theorem dX1_derive_19 : decode cX1_derive 19 = .ok (.aload_n 1, 1) := by decide +kernel
theorem dX1_derive_20 : decode cX1_derive 20 = .ok (.invokevirtual 53, 3) := by decide +kernel
theorem dX1_derive_23 : decode cX1_derive 23 = .ok (.aload_n 0, 1) := by decide +kernel
theorem dX1_derive_24 : decode cX1_derive 24 = .ok (.aload_n 1, 1) := by decide +kernel
theorem dX1_derive_25 : decode cX1_derive 25 = .ok (.getfield 44, 3) := by decide +kernel
theorem dX1_derive_28 : decode cX1_derive 28 = .ok (.invokevirtual 56, 3) := by decide +kernel
theorem dX1_derive_31 : decode cX1_derive 31 = .ok (.return_, 1) := by decide +kernel
theorem dX1_soleDefinerOf_0 : decode cX1_soleDefinerOf 0 = .ok (.iload_n 1, 1) := by decide +kernel
theorem dX1_soleDefinerOf_1 : decode cX1_soleDefinerOf 1 = .ok (.invokestatic 59, 3) := by decide +kernel
theorem dX1_soleDefinerOf_4 : decode cX1_soleDefinerOf 4 = .ok (.ifCond .eq 15, 3) := by decide +kernel
theorem dX1_soleDefinerOf_7 : decode cX1_soleDefinerOf 7 = .ok (.aload_n 0, 1) := by decide +kernel
theorem dX1_soleDefinerOf_8 : decode cX1_soleDefinerOf 8 = .ok (.getfield 15, 3) := by decide +kernel
theorem dX1_soleDefinerOf_11 : decode cX1_soleDefinerOf 11 = .ok (.iload_n 1, 1) := by decide +kernel
theorem dX1_soleDefinerOf_12 : decode cX1_soleDefinerOf 12 = .ok (.bipush 100, 2) := by decide +kernel
theorem dX1_soleDefinerOf_14 : decode cX1_soleDefinerOf 14 = .ok (.isub, 1) := by decide +kernel
theorem dX1_soleDefinerOf_15 : decode cX1_soleDefinerOf 15 = .ok (.iaload, 1) := by decide +kernel
theorem dX1_soleDefinerOf_16 : decode cX1_soleDefinerOf 16 = .ok (.goto 4, 3) := by decide +kernel
theorem dX1_soleDefinerOf_19 : decode cX1_soleDefinerOf 19 = .ok (.iconst (-1), 1) := by decide +kernel
theorem dX1_soleDefinerOf_20 : decode cX1_soleDefinerOf 20 = .ok (.ireturn, 1) := by decide +kernel
theorem dX1_definersOf_0 : decode cX1_definersOf 0 = .ok (.iload_n 1, 1) := by decide +kernel
theorem dX1_definersOf_1 : decode cX1_definersOf 1 = .ok (.invokestatic 59, 3) := by decide +kernel
theorem dX1_definersOf_4 : decode cX1_definersOf 4 = .ok (.ifCond .eq 15, 3) := by decide +kernel
theorem dX1_definersOf_7 : decode cX1_definersOf 7 = .ok (.aload_n 0, 1) := by decide +kernel
theorem dX1_definersOf_8 : decode cX1_definersOf 8 = .ok (.getfield 9, 3) := by decide +kernel
theorem dX1_definersOf_11 : decode cX1_definersOf 11 = .ok (.iload_n 1, 1) := by decide +kernel
theorem dX1_definersOf_12 : decode cX1_definersOf 12 = .ok (.bipush 100, 2) := by decide +kernel
theorem dX1_definersOf_14 : decode cX1_definersOf 14 = .ok (.isub, 1) := by decide +kernel
theorem dX1_definersOf_15 : decode cX1_definersOf 15 = .ok (.iaload, 1) := by decide +kernel
theorem dX1_definersOf_16 : decode cX1_definersOf 16 = .ok (.goto 4, 3) := by decide +kernel
theorem dX1_definersOf_19 : decode cX1_definersOf 19 = .ok (.iconst 0, 1) := by decide +kernel
theorem dX1_definersOf_20 : decode cX1_definersOf 20 = .ok (.ireturn, 1) := by decide +kernel
theorem dX1_clearDefiners_0 : decode cX1_clearDefiners 0 = .ok (.iconst 0, 1) := by decide +kernel
theorem dX1_clearDefiners_1 : decode cX1_clearDefiners 1 = .ok (.istore_n 1, 1) := by decide +kernel
theorem dX1_clearDefiners_2 : decode cX1_clearDefiners 2 = .ok (.iload_n 1, 1) := by decide +kernel
theorem dX1_clearDefiners_3 : decode cX1_clearDefiners 3 = .ok (.bipush 10, 2) := by decide +kernel
theorem dX1_clearDefiners_5 : decode cX1_clearDefiners 5 = .ok (.if_icmp .ge 23, 3) := by decide +kernel
theorem dX1_clearDefiners_8 : decode cX1_clearDefiners 8 = .ok (.aload_n 0, 1) := by decide +kernel
theorem dX1_clearDefiners_9 : decode cX1_clearDefiners 9 = .ok (.getfield 9, 3) := by decide +kernel
theorem dX1_clearDefiners_12 : decode cX1_clearDefiners 12 = .ok (.iload_n 1, 1) := by decide +kernel
theorem dX1_clearDefiners_13 : decode cX1_clearDefiners 13 = .ok (.iconst 0, 1) := by decide +kernel
theorem dX1_clearDefiners_14 : decode cX1_clearDefiners 14 = .ok (.iastore, 1) := by decide +kernel
theorem dX1_clearDefiners_15 : decode cX1_clearDefiners 15 = .ok (.aload_n 0, 1) := by decide +kernel
theorem dX1_clearDefiners_16 : decode cX1_clearDefiners 16 = .ok (.getfield 15, 3) := by decide +kernel
theorem dX1_clearDefiners_19 : decode cX1_clearDefiners 19 = .ok (.iload_n 1, 1) := by decide +kernel
theorem dX1_clearDefiners_20 : decode cX1_clearDefiners 20 = .ok (.iconst (-1), 1) := by decide +kernel
theorem dX1_clearDefiners_21 : decode cX1_clearDefiners 21 = .ok (.iastore, 1) := by decide +kernel
theorem dX1_clearDefiners_22 : decode cX1_clearDefiners 22 = .ok (.iinc 1 1, 3) := by decide +kernel
theorem dX1_clearDefiners_25 : decode cX1_clearDefiners 25 = .ok (.goto (-23), 3) := by decide +kernel
theorem dX1_clearDefiners_28 : decode cX1_clearDefiners 28 = .ok (.return_, 1) := by decide +kernel
theorem dX1_findDefiners_0 : decode cX1_findDefiners 0 = .ok (.aload_n 0, 1) := by decide +kernel
theorem dX1_findDefiners_1 : decode cX1_findDefiners 1 = .ok (.invokevirtual 34, 3) := by decide +kernel
theorem dX1_findDefiners_4 : decode cX1_findDefiners 4 = .ok (.iconst 0, 1) := by decide +kernel
theorem dX1_findDefiners_5 : decode cX1_findDefiners 5 = .ok (.istore_n 2, 1) := by decide +kernel
theorem dX1_findDefiners_6 : decode cX1_findDefiners 6 = .ok (.iload_n 2, 1) := by decide +kernel
theorem dX1_findDefiners_7 : decode cX1_findDefiners 7 = .ok (.aload_n 1, 1) := by decide +kernel
theorem dX1_findDefiners_8 : decode cX1_findDefiners 8 = .ok (.getfield 44, 3) := by decide +kernel
theorem dX1_findDefiners_11 : decode cX1_findDefiners 11 = .ok (.if_icmp .ge 58, 3) := by decide +kernel
theorem dX1_findDefiners_14 : decode cX1_findDefiners 14 = .ok (.aload_n 1, 1) := by decide +kernel
theorem dX1_findDefiners_15 : decode cX1_findDefiners 15 = .ok (.getfield 63, 3) := by decide +kernel
theorem dX1_findDefiners_18 : decode cX1_findDefiners 18 = .ok (.iload_n 2, 1) := by decide +kernel
theorem dX1_findDefiners_19 : decode cX1_findDefiners 19 = .ok (.aaload, 1) := by decide +kernel
theorem dX1_findDefiners_20 : decode cX1_findDefiners 20 = .ok (.getfield 67, 3) := by decide +kernel
theorem dX1_findDefiners_23 : decode cX1_findDefiners 23 = .ok (.istore_n 3, 1) := by decide +kernel
theorem dX1_findDefiners_24 : decode cX1_findDefiners 24 = .ok (.iload_n 3, 1) := by decide +kernel
theorem dX1_findDefiners_25 : decode cX1_findDefiners 25 = .ok (.invokestatic 72, 3) := by decide +kernel
theorem dX1_findDefiners_28 : decode cX1_findDefiners 28 = .ok (.ifCond .eq 35, 3) := by decide +kernel
theorem dX1_findDefiners_31 : decode cX1_findDefiners 31 = .ok (.aload_n 0, 1) := by decide +kernel
theorem dX1_findDefiners_32 : decode cX1_findDefiners 32 = .ok (.getfield 15, 3) := by decide +kernel
theorem dX1_findDefiners_35 : decode cX1_findDefiners 35 = .ok (.iload_n 3, 1) := by decide +kernel
theorem dX1_findDefiners_36 : decode cX1_findDefiners 36 = .ok (.aload_n 0, 1) := by decide +kernel
theorem dX1_findDefiners_37 : decode cX1_findDefiners 37 = .ok (.getfield 9, 3) := by decide +kernel
theorem dX1_findDefiners_40 : decode cX1_findDefiners 40 = .ok (.iload_n 3, 1) := by decide +kernel
theorem dX1_findDefiners_41 : decode cX1_findDefiners 41 = .ok (.iaload, 1) := by decide +kernel
theorem dX1_findDefiners_42 : decode cX1_findDefiners 42 = .ok (.ifCond .ne 7, 3) := by decide +kernel
theorem dX1_findDefiners_45 : decode cX1_findDefiners 45 = .ok (.iload_n 2, 1) := by decide +kernel
theorem dX1_findDefiners_46 : decode cX1_findDefiners 46 = .ok (.goto 4, 3) := by decide +kernel
theorem dX1_findDefiners_49 : decode cX1_findDefiners 49 = .ok (.iconst (-1), 1) := by decide +kernel
theorem dX1_findDefiners_50 : decode cX1_findDefiners 50 = .ok (.iastore, 1) := by decide +kernel
theorem dX1_findDefiners_51 : decode cX1_findDefiners 51 = .ok (.aload_n 0, 1) := by decide +kernel
theorem dX1_findDefiners_52 : decode cX1_findDefiners 52 = .ok (.getfield 9, 3) := by decide +kernel
theorem dX1_findDefiners_55 : decode cX1_findDefiners 55 = .ok (.iload_n 3, 1) := by decide +kernel
theorem dX1_findDefiners_56 : decode cX1_findDefiners 56 = .ok (.dup2, 1) := by decide +kernel
theorem dX1_findDefiners_57 : decode cX1_findDefiners 57 = .ok (.iaload, 1) := by decide +kernel
theorem dX1_findDefiners_58 : decode cX1_findDefiners 58 = .ok (.iconst 1, 1) := by decide +kernel
theorem dX1_findDefiners_59 : decode cX1_findDefiners 59 = .ok (.iload_n 2, 1) := by decide +kernel
theorem dX1_findDefiners_60 : decode cX1_findDefiners 60 = .ok (.ishl, 1) := by decide +kernel
theorem dX1_findDefiners_61 : decode cX1_findDefiners 61 = .ok (.ior, 1) := by decide +kernel
theorem dX1_findDefiners_62 : decode cX1_findDefiners 62 = .ok (.iastore, 1) := by decide +kernel
theorem dX1_findDefiners_63 : decode cX1_findDefiners 63 = .ok (.iinc 2 1, 3) := by decide +kernel
theorem dX1_findDefiners_66 : decode cX1_findDefiners 66 = .ok (.goto (-60), 3) := by decide +kernel
theorem dX1_findDefiners_69 : decode cX1_findDefiners 69 = .ok (.return_, 1) := by decide +kernel
theorem dX1_findDependencies_0 : decode cX1_findDependencies 0 = .ok (.iconst 0, 1) := by decide +kernel
theorem dX1_findDependencies_1 : decode cX1_findDependencies 1 = .ok (.istore_n 2, 1) := by decide +kernel
theorem dX1_findDependencies_2 : decode cX1_findDependencies 2 = .ok (.iload_n 2, 1) := by decide +kernel
theorem dX1_findDependencies_3 : decode cX1_findDependencies 3 = .ok (.aload_n 1, 1) := by decide +kernel
theorem dX1_findDependencies_4 : decode cX1_findDependencies 4 = .ok (.getfield 44, 3) := by decide +kernel
theorem dX1_findDependencies_7 : decode cX1_findDependencies 7 = .ok (.if_icmp .ge 42, 3) := by decide +kernel
theorem dX1_findDependencies_10 : decode cX1_findDependencies 10 = .ok (.aload_n 0, 1) := by decide +kernel
theorem dX1_findDependencies_11 : decode cX1_findDependencies 11 = .ok (.getfield 18, 3) := by decide +kernel
theorem dX1_findDependencies_14 : decode cX1_findDependencies 14 = .ok (.iload_n 2, 1) := by decide +kernel
theorem dX1_findDependencies_15 : decode cX1_findDependencies 15 = .ok (.aload_n 0, 1) := by decide +kernel
theorem dX1_findDependencies_16 : decode cX1_findDependencies 16 = .ok (.aload_n 1, 1) := by decide +kernel
theorem dX1_findDependencies_17 : decode cX1_findDependencies 17 = .ok (.getfield 63, 3) := by decide +kernel
theorem dX1_findDependencies_20 : decode cX1_findDependencies 20 = .ok (.iload_n 2, 1) := by decide +kernel
theorem dX1_findDependencies_21 : decode cX1_findDependencies 21 = .ok (.aaload, 1) := by decide +kernel
theorem dX1_findDependencies_22 : decode cX1_findDependencies 22 = .ok (.getfield 75, 3) := by decide +kernel
theorem dX1_findDependencies_25 : decode cX1_findDependencies 25 = .ok (.invokevirtual 78, 3) := by decide +kernel
theorem dX1_findDependencies_28 : decode cX1_findDependencies 28 = .ok (.aload_n 0, 1) := by decide +kernel
theorem dX1_findDependencies_29 : decode cX1_findDependencies 29 = .ok (.aload_n 1, 1) := by decide +kernel
theorem dX1_findDependencies_30 : decode cX1_findDependencies 30 = .ok (.getfield 63, 3) := by decide +kernel
theorem dX1_findDependencies_33 : decode cX1_findDependencies 33 = .ok (.iload_n 2, 1) := by decide +kernel
theorem dX1_findDependencies_34 : decode cX1_findDependencies 34 = .ok (.aaload, 1) := by decide +kernel
theorem dX1_findDependencies_35 : decode cX1_findDependencies 35 = .ok (.getfield 82, 3) := by decide +kernel
theorem dX1_findDependencies_38 : decode cX1_findDependencies 38 = .ok (.invokevirtual 78, 3) := by decide +kernel
theorem dX1_findDependencies_41 : decode cX1_findDependencies 41 = .ok (.ior, 1) := by decide +kernel
theorem dX1_findDependencies_42 : decode cX1_findDependencies 42 = .ok (.iastore, 1) := by decide +kernel
theorem dX1_findDependencies_43 : decode cX1_findDependencies 43 = .ok (.iinc 2 1, 3) := by decide +kernel
theorem dX1_findDependencies_46 : decode cX1_findDependencies 46 = .ok (.goto (-44), 3) := by decide +kernel
theorem dX1_findDependencies_49 : decode cX1_findDependencies 49 = .ok (.return_, 1) := by decide +kernel
theorem dX1_dependencyOn_0 : decode cX1_dependencyOn 0 = .ok (.aload_n 0, 1) := by decide +kernel
theorem dX1_dependencyOn_1 : decode cX1_dependencyOn 1 = .ok (.iload_n 1, 1) := by decide +kernel
theorem dX1_dependencyOn_2 : decode cX1_dependencyOn 2 = .ok (.invokevirtual 85, 3) := by decide +kernel
theorem dX1_dependencyOn_5 : decode cX1_dependencyOn 5 = .ok (.istore_n 2, 1) := by decide +kernel
theorem dX1_dependencyOn_6 : decode cX1_dependencyOn 6 = .ok (.iload_n 2, 1) := by decide +kernel
theorem dX1_dependencyOn_7 : decode cX1_dependencyOn 7 = .ok (.iconst (-1), 1) := by decide +kernel
theorem dX1_dependencyOn_8 : decode cX1_dependencyOn 8 = .ok (.if_icmp .ne 7, 3) := by decide +kernel
theorem dX1_dependencyOn_11 : decode cX1_dependencyOn 11 = .ok (.iconst 0, 1) := by decide +kernel
theorem dX1_dependencyOn_12 : decode cX1_dependencyOn 12 = .ok (.goto 6, 3) := by decide +kernel
theorem dX1_dependencyOn_15 : decode cX1_dependencyOn 15 = .ok (.iconst 1, 1) := by decide +kernel
theorem dX1_dependencyOn_16 : decode cX1_dependencyOn 16 = .ok (.iload_n 2, 1) := by decide +kernel
theorem dX1_dependencyOn_17 : decode cX1_dependencyOn 17 = .ok (.ishl, 1) := by decide +kernel
theorem dX1_dependencyOn_18 : decode cX1_dependencyOn 18 = .ok (.ireturn, 1) := by decide +kernel
theorem dX1_closeDependencies_0 : decode cX1_closeDependencies 0 = .ok (.iconst 0, 1) := by decide +kernel
theorem dX1_closeDependencies_1 : decode cX1_closeDependencies 1 = .ok (.istore_n 2, 1) := by decide +kernel
theorem dX1_closeDependencies_2 : decode cX1_closeDependencies 2 = .ok (.iload_n 2, 1) := by decide +kernel
theorem dX1_closeDependencies_3 : decode cX1_closeDependencies 3 = .ok (.iload_n 1, 1) := by decide +kernel
theorem dX1_closeDependencies_4 : decode cX1_closeDependencies 4 = .ok (.if_icmp .ge 21, 3) := by decide +kernel
theorem dX1_closeDependencies_7 : decode cX1_closeDependencies 7 = .ok (.aload_n 0, 1) := by decide +kernel
theorem dX1_closeDependencies_8 : decode cX1_closeDependencies 8 = .ok (.getfield 21, 3) := by decide +kernel
theorem dX1_closeDependencies_11 : decode cX1_closeDependencies 11 = .ok (.iload_n 2, 1) := by decide +kernel
theorem dX1_closeDependencies_12 : decode cX1_closeDependencies 12 = .ok (.aload_n 0, 1) := by decide +kernel
theorem dX1_closeDependencies_13 : decode cX1_closeDependencies 13 = .ok (.getfield 18, 3) := by decide +kernel
theorem dX1_closeDependencies_16 : decode cX1_closeDependencies 16 = .ok (.iload_n 2, 1) := by decide +kernel
theorem dX1_closeDependencies_17 : decode cX1_closeDependencies 17 = .ok (.iaload, 1) := by decide +kernel
theorem dX1_closeDependencies_18 : decode cX1_closeDependencies 18 = .ok (.iastore, 1) := by decide +kernel
theorem dX1_closeDependencies_19 : decode cX1_closeDependencies 19 = .ok (.iinc 2 1, 3) := by decide +kernel
theorem dX1_closeDependencies_22 : decode cX1_closeDependencies 22 = .ok (.goto (-20), 3) := by decide +kernel
theorem dX1_closeDependencies_25 : decode cX1_closeDependencies 25 = .ok (.iconst 0, 1) := by decide +kernel
theorem dX1_closeDependencies_26 : decode cX1_closeDependencies 26 = .ok (.istore_n 2, 1) := by decide +kernel
theorem dX1_closeDependencies_27 : decode cX1_closeDependencies 27 = .ok (.iload_n 2, 1) := by decide +kernel
theorem dX1_closeDependencies_28 : decode cX1_closeDependencies 28 = .ok (.iload_n 1, 1) := by decide +kernel
theorem dX1_closeDependencies_29 : decode cX1_closeDependencies 29 = .ok (.if_icmp .ge 50, 3) := by decide +kernel
theorem dX1_closeDependencies_32 : decode cX1_closeDependencies 32 = .ok (.iconst 0, 1) := by decide +kernel
theorem dX1_closeDependencies_33 : decode cX1_closeDependencies 33 = .ok (.istore_n 3, 1) := by decide +kernel
theorem dX1_closeDependencies_34 : decode cX1_closeDependencies 34 = .ok (.iload_n 3, 1) := by decide +kernel
theorem dX1_closeDependencies_35 : decode cX1_closeDependencies 35 = .ok (.iload_n 1, 1) := by decide +kernel
theorem dX1_closeDependencies_36 : decode cX1_closeDependencies 36 = .ok (.if_icmp .ge 37, 3) := by decide +kernel
theorem dX1_closeDependencies_39 : decode cX1_closeDependencies 39 = .ok (.aload_n 0, 1) := by decide +kernel
theorem dX1_closeDependencies_40 : decode cX1_closeDependencies 40 = .ok (.getfield 21, 3) := by decide +kernel
theorem dX1_closeDependencies_43 : decode cX1_closeDependencies 43 = .ok (.iload_n 3, 1) := by decide +kernel
theorem dX1_closeDependencies_44 : decode cX1_closeDependencies 44 = .ok (.iaload, 1) := by decide +kernel
theorem dX1_closeDependencies_45 : decode cX1_closeDependencies 45 = .ok (.iload_n 2, 1) := by decide +kernel
theorem dX1_closeDependencies_46 : decode cX1_closeDependencies 46 = .ok (.invokestatic 88, 3) := by decide +kernel
theorem dX1_closeDependencies_49 : decode cX1_closeDependencies 49 = .ok (.ifCond .eq 18, 3) := by decide +kernel
theorem dX1_closeDependencies_52 : decode cX1_closeDependencies 52 = .ok (.aload_n 0, 1) := by decide +kernel
theorem dX1_closeDependencies_53 : decode cX1_closeDependencies 53 = .ok (.getfield 21, 3) := by decide +kernel
theorem dX1_closeDependencies_56 : decode cX1_closeDependencies 56 = .ok (.iload_n 3, 1) := by decide +kernel
theorem dX1_closeDependencies_57 : decode cX1_closeDependencies 57 = .ok (.dup2, 1) := by decide +kernel
theorem dX1_closeDependencies_58 : decode cX1_closeDependencies 58 = .ok (.iaload, 1) := by decide +kernel
theorem dX1_closeDependencies_59 : decode cX1_closeDependencies 59 = .ok (.aload_n 0, 1) := by decide +kernel
theorem dX1_closeDependencies_60 : decode cX1_closeDependencies 60 = .ok (.getfield 21, 3) := by decide +kernel
theorem dX1_closeDependencies_63 : decode cX1_closeDependencies 63 = .ok (.iload_n 2, 1) := by decide +kernel
theorem dX1_closeDependencies_64 : decode cX1_closeDependencies 64 = .ok (.iaload, 1) := by decide +kernel
theorem dX1_closeDependencies_65 : decode cX1_closeDependencies 65 = .ok (.ior, 1) := by decide +kernel
theorem dX1_closeDependencies_66 : decode cX1_closeDependencies 66 = .ok (.iastore, 1) := by decide +kernel
theorem dX1_closeDependencies_67 : decode cX1_closeDependencies 67 = .ok (.iinc 3 1, 3) := by decide +kernel
theorem dX1_closeDependencies_70 : decode cX1_closeDependencies 70 = .ok (.goto (-36), 3) := by decide +kernel
theorem dX1_closeDependencies_73 : decode cX1_closeDependencies 73 = .ok (.iinc 2 1, 3) := by decide +kernel
theorem dX1_closeDependencies_76 : decode cX1_closeDependencies 76 = .ok (.goto (-49), 3) := by decide +kernel
theorem dX1_closeDependencies_79 : decode cX1_closeDependencies 79 = .ok (.return_, 1) := by decide +kernel
theorem dX1_findStaticErrors_0 : decode cX1_findStaticErrors 0 = .ok (.iconst 0, 1) := by decide +kernel
theorem dX1_findStaticErrors_1 : decode cX1_findStaticErrors 1 = .ok (.istore_n 2, 1) := by decide +kernel
theorem dX1_findStaticErrors_2 : decode cX1_findStaticErrors 2 = .ok (.iconst 0, 1) := by decide +kernel
theorem dX1_findStaticErrors_3 : decode cX1_findStaticErrors 3 = .ok (.istore_n 3, 1) := by decide +kernel
theorem dX1_findStaticErrors_4 : decode cX1_findStaticErrors 4 = .ok (.iload_n 3, 1) := by decide +kernel
theorem dX1_findStaticErrors_5 : decode cX1_findStaticErrors 5 = .ok (.aload_n 1, 1) := by decide +kernel
theorem dX1_findStaticErrors_6 : decode cX1_findStaticErrors 6 = .ok (.getfield 44, 3) := by decide +kernel
theorem dX1_findStaticErrors_9 : decode cX1_findStaticErrors 9 = .ok (.if_icmp .ge 41, 3) := by decide +kernel
theorem dX1_findStaticErrors_12 : decode cX1_findStaticErrors 12 = .ok (.aload_n 0, 1) := by decide +kernel
theorem dX1_findStaticErrors_13 : decode cX1_findStaticErrors 13 = .ok (.getfield 24, 3) := by decide +kernel
theorem dX1_findStaticErrors_16 : decode cX1_findStaticErrors 16 = .ok (.iload_n 3, 1) := by decide +kernel
theorem dX1_findStaticErrors_17 : decode cX1_findStaticErrors 17 = .ok (.aload_n 0, 1) := by decide +kernel
theorem dX1_findStaticErrors_18 : decode cX1_findStaticErrors 18 = .ok (.aload_n 1, 1) := by decide +kernel
theorem dX1_findStaticErrors_19 : decode cX1_findStaticErrors 19 = .ok (.getfield 63, 3) := by decide +kernel
theorem dX1_findStaticErrors_22 : decode cX1_findStaticErrors 22 = .ok (.iload_n 3, 1) := by decide +kernel
theorem dX1_findStaticErrors_23 : decode cX1_findStaticErrors 23 = .ok (.aaload, 1) := by decide +kernel
theorem dX1_findStaticErrors_24 : decode cX1_findStaticErrors 24 = .ok (.iload_n 3, 1) := by decide +kernel
theorem dX1_findStaticErrors_25 : decode cX1_findStaticErrors 25 = .ok (.invokevirtual 92, 3) := by decide +kernel
theorem dX1_findStaticErrors_28 : decode cX1_findStaticErrors 28 = .ok (.iastore, 1) := by decide +kernel
theorem dX1_findStaticErrors_29 : decode cX1_findStaticErrors 29 = .ok (.aload_n 0, 1) := by decide +kernel
theorem dX1_findStaticErrors_30 : decode cX1_findStaticErrors 30 = .ok (.getfield 24, 3) := by decide +kernel
theorem dX1_findStaticErrors_33 : decode cX1_findStaticErrors 33 = .ok (.iload_n 3, 1) := by decide +kernel
theorem dX1_findStaticErrors_34 : decode cX1_findStaticErrors 34 = .ok (.iaload, 1) := by decide +kernel
theorem dX1_findStaticErrors_35 : decode cX1_findStaticErrors 35 = .ok (.ifCond .eq 9, 3) := by decide +kernel
theorem dX1_findStaticErrors_38 : decode cX1_findStaticErrors 38 = .ok (.iload_n 2, 1) := by decide +kernel
theorem dX1_findStaticErrors_39 : decode cX1_findStaticErrors 39 = .ok (.iconst 1, 1) := by decide +kernel
theorem dX1_findStaticErrors_40 : decode cX1_findStaticErrors 40 = .ok (.iload_n 3, 1) := by decide +kernel
theorem dX1_findStaticErrors_41 : decode cX1_findStaticErrors 41 = .ok (.ishl, 1) := by decide +kernel
theorem dX1_findStaticErrors_42 : decode cX1_findStaticErrors 42 = .ok (.ior, 1) := by decide +kernel
theorem dX1_findStaticErrors_43 : decode cX1_findStaticErrors 43 = .ok (.istore_n 2, 1) := by decide +kernel
theorem dX1_findStaticErrors_44 : decode cX1_findStaticErrors 44 = .ok (.iinc 3 1, 3) := by decide +kernel
theorem dX1_findStaticErrors_47 : decode cX1_findStaticErrors 47 = .ok (.goto (-43), 3) := by decide +kernel
theorem dX1_findStaticErrors_50 : decode cX1_findStaticErrors 50 = .ok (.aload_n 0, 1) := by decide +kernel
theorem dX1_findStaticErrors_51 : decode cX1_findStaticErrors 51 = .ok (.aload_n 1, 1) := by decide +kernel
theorem dX1_findStaticErrors_52 : decode cX1_findStaticErrors 52 = .ok (.iload_n 2, 1) := by decide +kernel
theorem dX1_findStaticErrors_53 : decode cX1_findStaticErrors 53 = .ok (.invokevirtual 96, 3) := by decide +kernel
theorem dX1_findStaticErrors_56 : decode cX1_findStaticErrors 56 = .ok (.return_, 1) := by decide +kernel
theorem dX1_ownError_0 : decode cX1_ownError 0 = .ok (.aload_n 0, 1) := by decide +kernel
theorem dX1_ownError_1 : decode cX1_ownError 1 = .ok (.bipush 100, 2) := by decide +kernel
theorem dX1_ownError_3 : decode cX1_ownError 3 = .ok (.aload_n 1, 1) := by decide +kernel
theorem dX1_ownError_4 : decode cX1_ownError 4 = .ok (.getfield 67, 3) := by decide +kernel
theorem dX1_ownError_7 : decode cX1_ownError 7 = .ok (.iadd, 1) := by decide +kernel
theorem dX1_ownError_8 : decode cX1_ownError 8 = .ok (.invokevirtual 85, 3) := by decide +kernel
theorem dX1_ownError_11 : decode cX1_ownError 11 = .ok (.iload_n 2, 1) := by decide +kernel
theorem dX1_ownError_12 : decode cX1_ownError 12 = .ok (.if_icmp .eq 5, 3) := by decide +kernel
theorem dX1_ownError_15 : decode cX1_ownError 15 = .ok (.iconst 2, 1) := by decide +kernel
theorem dX1_ownError_16 : decode cX1_ownError 16 = .ok (.ireturn, 1) := by decide +kernel
theorem dX1_ownError_17 : decode cX1_ownError 17 = .ok (.aload_n 0, 1) := by decide +kernel
theorem dX1_ownError_18 : decode cX1_ownError 18 = .ok (.getfield 21, 3) := by decide +kernel
theorem dX1_ownError_21 : decode cX1_ownError 21 = .ok (.iload_n 2, 1) := by decide +kernel
theorem dX1_ownError_22 : decode cX1_ownError 22 = .ok (.iaload, 1) := by decide +kernel
theorem dX1_ownError_23 : decode cX1_ownError 23 = .ok (.iload_n 2, 1) := by decide +kernel
theorem dX1_ownError_24 : decode cX1_ownError 24 = .ok (.invokestatic 88, 3) := by decide +kernel
theorem dX1_ownError_27 : decode cX1_ownError 27 = .ok (.ifCond .eq 5, 3) := by decide +kernel
theorem dX1_ownError_30 : decode cX1_ownError 30 = .ok (.iconst 3, 1) := by decide +kernel
theorem dX1_ownError_31 : decode cX1_ownError 31 = .ok (.ireturn, 1) := by decide +kernel
theorem dX1_ownError_32 : decode cX1_ownError 32 = .ok (.aload_n 0, 1) := by decide +kernel
theorem dX1_ownError_33 : decode cX1_ownError 33 = .ok (.aload_n 1, 1) := by decide +kernel
theorem dX1_ownError_34 : decode cX1_ownError 34 = .ok (.getfield 75, 3) := by decide +kernel
theorem dX1_ownError_37 : decode cX1_ownError 37 = .ok (.invokevirtual 100, 3) := by decide +kernel
theorem dX1_ownError_40 : decode cX1_ownError 40 = .ok (.ifCond .ne 14, 3) := by decide +kernel
theorem dX1_ownError_43 : decode cX1_ownError 43 = .ok (.aload_n 0, 1) := by decide +kernel
theorem dX1_ownError_44 : decode cX1_ownError 44 = .ok (.aload_n 1, 1) := by decide +kernel
theorem dX1_ownError_45 : decode cX1_ownError 45 = .ok (.getfield 82, 3) := by decide +kernel
theorem dX1_ownError_48 : decode cX1_ownError 48 = .ok (.invokevirtual 100, 3) := by decide +kernel
theorem dX1_ownError_51 : decode cX1_ownError 51 = .ok (.ifCond .eq 7, 3) := by decide +kernel
theorem dX1_ownError_54 : decode cX1_ownError 54 = .ok (.iconst 4, 1) := by decide +kernel
theorem dX1_ownError_55 : decode cX1_ownError 55 = .ok (.goto 4, 3) := by decide +kernel
theorem dX1_ownError_58 : decode cX1_ownError 58 = .ok (.iconst 0, 1) := by decide +kernel
theorem dX1_ownError_59 : decode cX1_ownError 59 = .ok (.ireturn, 1) := by decide +kernel
theorem dX1_isUndefined_0 : decode cX1_isUndefined 0 = .ok (.iload_n 1, 1) := by decide +kernel
theorem dX1_isUndefined_1 : decode cX1_isUndefined 1 = .ok (.invokestatic 59, 3) := by decide +kernel
theorem dX1_isUndefined_4 : decode cX1_isUndefined 4 = .ok (.ifCond .eq 15, 3) := by decide +kernel
theorem dX1_isUndefined_7 : decode cX1_isUndefined 7 = .ok (.aload_n 0, 1) := by decide +kernel
theorem dX1_isUndefined_8 : decode cX1_isUndefined 8 = .ok (.iload_n 1, 1) := by decide +kernel
theorem dX1_isUndefined_9 : decode cX1_isUndefined 9 = .ok (.invokevirtual 103, 3) := by decide +kernel
theorem dX1_isUndefined_12 : decode cX1_isUndefined 12 = .ok (.ifCond .ne 7, 3) := by decide +kernel
theorem dX1_isUndefined_15 : decode cX1_isUndefined 15 = .ok (.iconst 1, 1) := by decide +kernel
theorem dX1_isUndefined_16 : decode cX1_isUndefined 16 = .ok (.goto 4, 3) := by decide +kernel
theorem dX1_isUndefined_19 : decode cX1_isUndefined 19 = .ok (.iconst 0, 1) := by decide +kernel
theorem dX1_isUndefined_20 : decode cX1_isUndefined 20 = .ok (.ireturn, 1) := by decide +kernel
theorem dX1_spreadBadInput_0 : decode cX1_spreadBadInput 0 = .ok (.iload_n 2, 1) := by decide +kernel
theorem dX1_spreadBadInput_1 : decode cX1_spreadBadInput 1 = .ok (.istore_n 3, 1) := by decide +kernel
theorem dX1_spreadBadInput_2 : decode cX1_spreadBadInput 2 = .ok (.iconst 0, 1) := by decide +kernel
theorem dX1_spreadBadInput_3 : decode cX1_spreadBadInput 3 = .ok (.istore 4, 2) := by decide +kernel
theorem dX1_spreadBadInput_5 : decode cX1_spreadBadInput 5 = .ok (.iload 4, 2) := by decide +kernel
theorem dX1_spreadBadInput_7 : decode cX1_spreadBadInput 7 = .ok (.aload_n 1, 1) := by decide +kernel
theorem dX1_spreadBadInput_8 : decode cX1_spreadBadInput 8 = .ok (.getfield 44, 3) := by decide +kernel
theorem dX1_spreadBadInput_11 : decode cX1_spreadBadInput 11 = .ok (.if_icmp .ge 90, 3) := by decide +kernel
theorem dX1_spreadBadInput_14 : decode cX1_spreadBadInput 14 = .ok (.iconst 0, 1) := by decide +kernel
theorem dX1_spreadBadInput_15 : decode cX1_spreadBadInput 15 = .ok (.istore 5, 2) := by decide +kernel
theorem dX1_spreadBadInput_17 : decode cX1_spreadBadInput 17 = .ok (.iload 5, 2) := by decide +kernel
theorem dX1_spreadBadInput_19 : decode cX1_spreadBadInput 19 = .ok (.aload_n 1, 1) := by decide +kernel
theorem dX1_spreadBadInput_20 : decode cX1_spreadBadInput 20 = .ok (.getfield 44, 3) := by decide +kernel
theorem dX1_spreadBadInput_23 : decode cX1_spreadBadInput 23 = .ok (.if_icmp .ge 72, 3) := by decide +kernel
theorem dX1_spreadBadInput_26 : decode cX1_spreadBadInput 26 = .ok (.aload_n 0, 1) := by decide +kernel
theorem dX1_spreadBadInput_27 : decode cX1_spreadBadInput 27 = .ok (.aload_n 1, 1) := by decide +kernel
theorem dX1_spreadBadInput_28 : decode cX1_spreadBadInput 28 = .ok (.getfield 63, 3) := by decide +kernel
theorem dX1_spreadBadInput_31 : decode cX1_spreadBadInput 31 = .ok (.iload 5, 2) := by decide +kernel
theorem dX1_spreadBadInput_33 : decode cX1_spreadBadInput 33 = .ok (.aaload, 1) := by decide +kernel
theorem dX1_spreadBadInput_34 : decode cX1_spreadBadInput 34 = .ok (.getfield 75, 3) := by decide +kernel
theorem dX1_spreadBadInput_37 : decode cX1_spreadBadInput 37 = .ok (.invokevirtual 103, 3) := by decide +kernel
theorem dX1_spreadBadInput_40 : decode cX1_spreadBadInput 40 = .ok (.aload_n 0, 1) := by decide +kernel
theorem dX1_spreadBadInput_41 : decode cX1_spreadBadInput 41 = .ok (.aload_n 1, 1) := by decide +kernel
theorem dX1_spreadBadInput_42 : decode cX1_spreadBadInput 42 = .ok (.getfield 63, 3) := by decide +kernel
theorem dX1_spreadBadInput_45 : decode cX1_spreadBadInput 45 = .ok (.iload 5, 2) := by decide +kernel
theorem dX1_spreadBadInput_47 : decode cX1_spreadBadInput 47 = .ok (.aaload, 1) := by decide +kernel
theorem dX1_spreadBadInput_48 : decode cX1_spreadBadInput 48 = .ok (.getfield 82, 3) := by decide +kernel
theorem dX1_spreadBadInput_51 : decode cX1_spreadBadInput 51 = .ok (.invokevirtual 103, 3) := by decide +kernel
theorem dX1_spreadBadInput_54 : decode cX1_spreadBadInput 54 = .ok (.ior, 1) := by decide +kernel
theorem dX1_spreadBadInput_55 : decode cX1_spreadBadInput 55 = .ok (.istore 6, 2) := by decide +kernel
theorem dX1_spreadBadInput_57 : decode cX1_spreadBadInput 57 = .ok (.aload_n 0, 1) := by decide +kernel
theorem dX1_spreadBadInput_58 : decode cX1_spreadBadInput 58 = .ok (.getfield 24, 3) := by decide +kernel
theorem dX1_spreadBadInput_61 : decode cX1_spreadBadInput 61 = .ok (.iload 5, 2) := by decide +kernel
theorem dX1_spreadBadInput_63 : decode cX1_spreadBadInput 63 = .ok (.iaload, 1) := by decide +kernel
theorem dX1_spreadBadInput_64 : decode cX1_spreadBadInput 64 = .ok (.ifCond .ne 25, 3) := by decide +kernel
theorem dX1_spreadBadInput_67 : decode cX1_spreadBadInput 67 = .ok (.iload 6, 2) := by decide +kernel
theorem dX1_spreadBadInput_69 : decode cX1_spreadBadInput 69 = .ok (.iload_n 3, 1) := by decide +kernel
theorem dX1_spreadBadInput_70 : decode cX1_spreadBadInput 70 = .ok (.iand, 1) := by decide +kernel
theorem dX1_spreadBadInput_71 : decode cX1_spreadBadInput 71 = .ok (.ifCond .eq 18, 3) := by decide +kernel
theorem dX1_spreadBadInput_74 : decode cX1_spreadBadInput 74 = .ok (.aload_n 0, 1) := by decide +kernel
theorem dX1_spreadBadInput_75 : decode cX1_spreadBadInput 75 = .ok (.getfield 24, 3) := by decide +kernel
theorem dX1_spreadBadInput_78 : decode cX1_spreadBadInput 78 = .ok (.iload 5, 2) := by decide +kernel
theorem dX1_spreadBadInput_80 : decode cX1_spreadBadInput 80 = .ok (.iconst 5, 1) := by decide +kernel
theorem dX1_spreadBadInput_81 : decode cX1_spreadBadInput 81 = .ok (.iastore, 1) := by decide +kernel
theorem dX1_spreadBadInput_82 : decode cX1_spreadBadInput 82 = .ok (.iload_n 3, 1) := by decide +kernel
theorem dX1_spreadBadInput_83 : decode cX1_spreadBadInput 83 = .ok (.iconst 1, 1) := by decide +kernel
theorem dX1_spreadBadInput_84 : decode cX1_spreadBadInput 84 = .ok (.iload 5, 2) := by decide +kernel
theorem dX1_spreadBadInput_86 : decode cX1_spreadBadInput 86 = .ok (.ishl, 1) := by decide +kernel
theorem dX1_spreadBadInput_87 : decode cX1_spreadBadInput 87 = .ok (.ior, 1) := by decide +kernel
theorem dX1_spreadBadInput_88 : decode cX1_spreadBadInput 88 = .ok (.istore_n 3, 1) := by decide +kernel
theorem dX1_spreadBadInput_89 : decode cX1_spreadBadInput 89 = .ok (.iinc 5 1, 3) := by decide +kernel
theorem dX1_spreadBadInput_92 : decode cX1_spreadBadInput 92 = .ok (.goto (-75), 3) := by decide +kernel
theorem dX1_spreadBadInput_95 : decode cX1_spreadBadInput 95 = .ok (.iinc 4 1, 3) := by decide +kernel
theorem dX1_spreadBadInput_98 : decode cX1_spreadBadInput 98 = .ok (.goto (-93), 3) := by decide +kernel
theorem dX1_spreadBadInput_101 : decode cX1_spreadBadInput 101 = .ok (.return_, 1) := by decide +kernel
theorem dX1_buildRunOrder_0 : decode cX1_buildRunOrder 0 = .ok (.iconst 0, 1) := by decide +kernel
theorem dX1_buildRunOrder_1 : decode cX1_buildRunOrder 1 = .ok (.istore_n 2, 1) := by decide +kernel
theorem dX1_buildRunOrder_2 : decode cX1_buildRunOrder 2 = .ok (.aload_n 0, 1) := by decide +kernel
theorem dX1_buildRunOrder_3 : decode cX1_buildRunOrder 3 = .ok (.iconst 0, 1) := by decide +kernel
theorem dX1_buildRunOrder_4 : decode cX1_buildRunOrder 4 = .ok (.putfield 30, 3) := by decide +kernel
theorem dX1_buildRunOrder_7 : decode cX1_buildRunOrder 7 = .ok (.iconst 0, 1) := by decide +kernel
theorem dX1_buildRunOrder_8 : decode cX1_buildRunOrder 8 = .ok (.istore_n 3, 1) := by decide +kernel
theorem dX1_buildRunOrder_9 : decode cX1_buildRunOrder 9 = .ok (.iload_n 3, 1) := by decide +kernel
theorem dX1_buildRunOrder_10 : decode cX1_buildRunOrder 10 = .ok (.iload_n 1, 1) := by decide +kernel
theorem dX1_buildRunOrder_11 : decode cX1_buildRunOrder 11 = .ok (.if_icmp .ge 46, 3) := by decide +kernel
theorem dX1_buildRunOrder_14 : decode cX1_buildRunOrder 14 = .ok (.aload_n 0, 1) := by decide +kernel
theorem dX1_buildRunOrder_15 : decode cX1_buildRunOrder 15 = .ok (.iload_n 1, 1) := by decide +kernel
theorem dX1_buildRunOrder_16 : decode cX1_buildRunOrder 16 = .ok (.iload_n 2, 1) := by decide +kernel
theorem dX1_buildRunOrder_17 : decode cX1_buildRunOrder 17 = .ok (.invokevirtual 106, 3) := by decide +kernel
theorem dX1_buildRunOrder_20 : decode cX1_buildRunOrder 20 = .ok (.istore 4, 2) := by decide +kernel
theorem dX1_buildRunOrder_22 : decode cX1_buildRunOrder 22 = .ok (.iload 4, 2) := by decide +kernel
theorem dX1_buildRunOrder_24 : decode cX1_buildRunOrder 24 = .ok (.iconst (-1), 1) := by decide +kernel
theorem dX1_buildRunOrder_25 : decode cX1_buildRunOrder 25 = .ok (.if_icmp .ne 4, 3) := by decide +kernel
theorem dX1_buildRunOrder_28 : decode cX1_buildRunOrder 28 = .ok (.return_, 1) := by decide +kernel
theorem dX1_buildRunOrder_29 : decode cX1_buildRunOrder 29 = .ok (.aload_n 0, 1) := by decide +kernel
theorem dX1_buildRunOrder_30 : decode cX1_buildRunOrder 30 = .ok (.getfield 27, 3) := by decide +kernel
theorem dX1_buildRunOrder_33 : decode cX1_buildRunOrder 33 = .ok (.iload_n 3, 1) := by decide +kernel
theorem dX1_buildRunOrder_34 : decode cX1_buildRunOrder 34 = .ok (.iload 4, 2) := by decide +kernel
theorem dX1_buildRunOrder_36 : decode cX1_buildRunOrder 36 = .ok (.iastore, 1) := by decide +kernel
theorem dX1_buildRunOrder_37 : decode cX1_buildRunOrder 37 = .ok (.aload_n 0, 1) := by decide +kernel
theorem dX1_buildRunOrder_38 : decode cX1_buildRunOrder 38 = .ok (.iload_n 3, 1) := by decide +kernel
theorem dX1_buildRunOrder_39 : decode cX1_buildRunOrder 39 = .ok (.iconst 1, 1) := by decide +kernel
theorem dX1_buildRunOrder_40 : decode cX1_buildRunOrder 40 = .ok (.iadd, 1) := by decide +kernel
theorem dX1_buildRunOrder_41 : decode cX1_buildRunOrder 41 = .ok (.putfield 30, 3) := by decide +kernel
theorem dX1_buildRunOrder_44 : decode cX1_buildRunOrder 44 = .ok (.iload_n 2, 1) := by decide +kernel
theorem dX1_buildRunOrder_45 : decode cX1_buildRunOrder 45 = .ok (.iconst 1, 1) := by decide +kernel
theorem dX1_buildRunOrder_46 : decode cX1_buildRunOrder 46 = .ok (.iload 4, 2) := by decide +kernel
theorem dX1_buildRunOrder_48 : decode cX1_buildRunOrder 48 = .ok (.ishl, 1) := by decide +kernel
theorem dX1_buildRunOrder_49 : decode cX1_buildRunOrder 49 = .ok (.ior, 1) := by decide +kernel
theorem dX1_buildRunOrder_50 : decode cX1_buildRunOrder 50 = .ok (.istore_n 2, 1) := by decide +kernel
theorem dX1_buildRunOrder_51 : decode cX1_buildRunOrder 51 = .ok (.iinc 3 1, 3) := by decide +kernel
theorem dX1_buildRunOrder_54 : decode cX1_buildRunOrder 54 = .ok (.goto (-45), 3) := by decide +kernel
theorem dX1_buildRunOrder_57 : decode cX1_buildRunOrder 57 = .ok (.return_, 1) := by decide +kernel
theorem dX1_lowestReady_0 : decode cX1_lowestReady 0 = .ok (.iconst 0, 1) := by decide +kernel
theorem dX1_lowestReady_1 : decode cX1_lowestReady 1 = .ok (.istore_n 3, 1) := by decide +kernel
theorem dX1_lowestReady_2 : decode cX1_lowestReady 2 = .ok (.iload_n 3, 1) := by decide +kernel
theorem dX1_lowestReady_3 : decode cX1_lowestReady 3 = .ok (.iload_n 1, 1) := by decide +kernel
theorem dX1_lowestReady_4 : decode cX1_lowestReady 4 = .ok (.if_icmp .ge 53, 3) := by decide +kernel
theorem dX1_lowestReady_7 : decode cX1_lowestReady 7 = .ok (.aload_n 0, 1) := by decide +kernel
theorem dX1_lowestReady_8 : decode cX1_lowestReady 8 = .ok (.getfield 18, 3) := by decide +kernel
theorem dX1_lowestReady_11 : decode cX1_lowestReady 11 = .ok (.iload_n 3, 1) := by decide +kernel
theorem dX1_lowestReady_12 : decode cX1_lowestReady 12 = .ok (.iaload, 1) := by decide +kernel
theorem dX1_lowestReady_13 : decode cX1_lowestReady 13 = .ok (.iload_n 2, 1) := by decide +kernel
theorem dX1_lowestReady_14 : decode cX1_lowestReady 14 = .ok (.iconst (-1), 1) := by decide +kernel
theorem dX1_lowestReady_15 : decode cX1_lowestReady 15 = .ok (.ixor, 1) := by decide +kernel
theorem dX1_lowestReady_16 : decode cX1_lowestReady 16 = .ok (.iand, 1) := by decide +kernel
theorem dX1_lowestReady_17 : decode cX1_lowestReady 17 = .ok (.ifCond .ne 7, 3) := by decide +kernel
theorem dX1_lowestReady_20 : decode cX1_lowestReady 20 = .ok (.iconst 1, 1) := by decide +kernel
theorem dX1_lowestReady_21 : decode cX1_lowestReady 21 = .ok (.goto 4, 3) := by decide +kernel
theorem dX1_lowestReady_24 : decode cX1_lowestReady 24 = .ok (.iconst 0, 1) := by decide +kernel
theorem dX1_lowestReady_25 : decode cX1_lowestReady 25 = .ok (.istore 4, 2) := by decide +kernel
theorem dX1_lowestReady_27 : decode cX1_lowestReady 27 = .ok (.aload_n 0, 1) := by decide +kernel
theorem dX1_lowestReady_28 : decode cX1_lowestReady 28 = .ok (.getfield 24, 3) := by decide +kernel
theorem dX1_lowestReady_31 : decode cX1_lowestReady 31 = .ok (.iload_n 3, 1) := by decide +kernel
theorem dX1_lowestReady_32 : decode cX1_lowestReady 32 = .ok (.iaload, 1) := by decide +kernel
theorem dX1_lowestReady_33 : decode cX1_lowestReady 33 = .ok (.ifCond .ne 18, 3) := by decide +kernel
theorem dX1_lowestReady_36 : decode cX1_lowestReady 36 = .ok (.iload_n 2, 1) := by decide +kernel
theorem dX1_lowestReady_37 : decode cX1_lowestReady 37 = .ok (.iload_n 3, 1) := by decide +kernel
theorem dX1_lowestReady_38 : decode cX1_lowestReady 38 = .ok (.invokestatic 88, 3) := by decide +kernel
theorem dX1_lowestReady_41 : decode cX1_lowestReady 41 = .ok (.ifCond .ne 10, 3) := by decide +kernel
theorem dX1_lowestReady_44 : decode cX1_lowestReady 44 = .ok (.iload 4, 2) := by decide +kernel
theorem dX1_lowestReady_46 : decode cX1_lowestReady 46 = .ok (.ifCond .eq 5, 3) := by decide +kernel
theorem dX1_lowestReady_49 : decode cX1_lowestReady 49 = .ok (.iload_n 3, 1) := by decide +kernel
theorem dX1_lowestReady_50 : decode cX1_lowestReady 50 = .ok (.ireturn, 1) := by decide +kernel
theorem dX1_lowestReady_51 : decode cX1_lowestReady 51 = .ok (.iinc 3 1, 3) := by decide +kernel
theorem dX1_lowestReady_54 : decode cX1_lowestReady 54 = .ok (.goto (-52), 3) := by decide +kernel
theorem dX1_lowestReady_57 : decode cX1_lowestReady 57 = .ok (.iconst (-1), 1) := by decide +kernel
theorem dX1_lowestReady_58 : decode cX1_lowestReady 58 = .ok (.ireturn, 1) := by decide +kernel
theorem dX2_init_0 : decode cX2_init 0 = .ok (.aload_n 0, 1) := by decide +kernel
theorem dX2_init_1 : decode cX2_init 1 = .ok (.invokespecial 3, 3) := by decide +kernel
theorem dX2_init_4 : decode cX2_init 4 = .ok (.aload_n 0, 1) := by decide +kernel
theorem dX2_init_5 : decode cX2_init 5 = .ok (.bipush 12, 2) := by decide +kernel
theorem dX2_init_7 : decode cX2_init 7 = .ok (.anewarray 9, 3) := by decide +kernel
theorem dX2_init_10 : decode cX2_init 10 = .ok (.putfield 11, 3) := by decide +kernel
theorem dX2_init_13 : decode cX2_init 13 = .ok (.aload_n 0, 1) := by decide +kernel
theorem dX2_init_14 : decode cX2_init 14 = .ok (.iconst 0, 1) := by decide +kernel
theorem dX2_init_15 : decode cX2_init 15 = .ok (.putfield 17, 3) := by decide +kernel
theorem dX2_init_18 : decode cX2_init 18 = .ok (.aload_n 0, 1) := by decide +kernel
theorem dX2_init_19 : decode cX2_init 19 = .ok (.iconst 0, 1) := by decide +kernel
theorem dX2_init_20 : decode cX2_init 20 = .ok (.putfield 21, 3) := by decide +kernel
theorem dX2_init_23 : decode cX2_init 23 = .ok (.aload_n 0, 1) := by decide +kernel
theorem dX2_init_24 : decode cX2_init 24 = .ok (.iconst 0, 1) := by decide +kernel
theorem dX2_init_25 : decode cX2_init 25 = .ok (.putfield 24, 3) := by decide +kernel
theorem dX2_init_28 : decode cX2_init 28 = .ok (.aload_n 0, 1) := by decide +kernel
theorem dX2_init_29 : decode cX2_init 29 = .ok (.iconst 0, 1) := by decide +kernel
theorem dX2_init_30 : decode cX2_init 30 = .ok (.putfield 27, 3) := by decide +kernel
theorem dX2_init_33 : decode cX2_init 33 = .ok (.aload_n 0, 1) := by decide +kernel
theorem dX2_init_34 : decode cX2_init 34 = .ok (.bipush 12, 2) := by decide +kernel
theorem dX2_init_36 : decode cX2_init 36 = .ok (.newarray .int, 2) := by decide +kernel
theorem dX2_init_38 : decode cX2_init 38 = .ok (.putfield 30, 3) := by decide +kernel
theorem dX2_init_41 : decode cX2_init 41 = .ok (.aload_n 0, 1) := by decide +kernel
theorem dX2_init_42 : decode cX2_init 42 = .ok (.iconst 0, 1) := by decide +kernel
theorem dX2_init_43 : decode cX2_init 43 = .ok (.putfield 34, 3) := by decide +kernel
theorem dX2_init_46 : decode cX2_init 46 = .ok (.iconst 0, 1) := by decide +kernel
theorem dX2_init_47 : decode cX2_init 47 = .ok (.istore_n 1, 1) := by decide +kernel
theorem dX2_init_48 : decode cX2_init 48 = .ok (.iload_n 1, 1) := by decide +kernel
theorem dX2_init_49 : decode cX2_init 49 = .ok (.bipush 12, 2) := by decide +kernel
theorem dX2_init_51 : decode cX2_init 51 = .ok (.if_icmp .ge 22, 3) := by decide +kernel
theorem dX2_init_54 : decode cX2_init 54 = .ok (.aload_n 0, 1) := by decide +kernel
theorem dX2_init_55 : decode cX2_init 55 = .ok (.getfield 11, 3) := by decide +kernel
theorem dX2_init_58 : decode cX2_init 58 = .ok (.iload_n 1, 1) := by decide +kernel
theorem dX2_init_59 : decode cX2_init 59 = .ok (.new 9, 3) := by decide +kernel
theorem dX2_init_62 : decode cX2_init 62 = .ok (.dup, 1) := by decide +kernel
theorem dX2_init_63 : decode cX2_init 63 = .ok (.invokespecial 37, 3) := by decide +kernel
theorem dX2_init_66 : decode cX2_init 66 = .ok (.aastore, 1) := by decide +kernel
theorem dX2_init_67 : decode cX2_init 67 = .ok (.iinc 1 1, 3) := by decide +kernel
theorem dX2_init_70 : decode cX2_init 70 = .ok (.goto (-22), 3) := by decide +kernel
theorem dX2_init_73 : decode cX2_init 73 = .ok (.return_, 1) := by decide +kernel
theorem dX2_copyFrom_0 : decode cX2_copyFrom 0 = .ok (.aload_n 0, 1) := by decide +kernel
theorem dX2_copyFrom_1 : decode cX2_copyFrom 1 = .ok (.aload_n 1, 1) := by decide +kernel
theorem dX2_copyFrom_2 : decode cX2_copyFrom 2 = .ok (.getfield 17, 3) := by decide +kernel
theorem dX2_copyFrom_5 : decode cX2_copyFrom 5 = .ok (.putfield 17, 3) := by decide +kernel
theorem dX2_copyFrom_8 : decode cX2_copyFrom 8 = .ok (.aload_n 0, 1) := by decide +kernel
theorem dX2_copyFrom_9 : decode cX2_copyFrom 9 = .ok (.aload_n 1, 1) := by decide +kernel
theorem dX2_copyFrom_10 : decode cX2_copyFrom 10 = .ok (.getfield 21, 3) := by decide +kernel
theorem dX2_copyFrom_13 : decode cX2_copyFrom 13 = .ok (.putfield 21, 3) := by decide +kernel
theorem dX2_copyFrom_16 : decode cX2_copyFrom 16 = .ok (.aload_n 0, 1) := by decide +kernel
theorem dX2_copyFrom_17 : decode cX2_copyFrom 17 = .ok (.aload_n 1, 1) := by decide +kernel
theorem dX2_copyFrom_18 : decode cX2_copyFrom 18 = .ok (.getfield 24, 3) := by decide +kernel
theorem dX2_copyFrom_21 : decode cX2_copyFrom 21 = .ok (.putfield 24, 3) := by decide +kernel
theorem dX2_copyFrom_24 : decode cX2_copyFrom 24 = .ok (.aload_n 0, 1) := by decide +kernel
theorem dX2_copyFrom_25 : decode cX2_copyFrom 25 = .ok (.aload_n 1, 1) := by decide +kernel
theorem dX2_copyFrom_26 : decode cX2_copyFrom 26 = .ok (.getfield 27, 3) := by decide +kernel
theorem dX2_copyFrom_29 : decode cX2_copyFrom 29 = .ok (.putfield 27, 3) := by decide +kernel
theorem dX2_copyFrom_32 : decode cX2_copyFrom 32 = .ok (.aload_n 0, 1) := by decide +kernel
theorem dX2_copyFrom_33 : decode cX2_copyFrom 33 = .ok (.aload_n 1, 1) := by decide +kernel
theorem dX2_copyFrom_34 : decode cX2_copyFrom 34 = .ok (.getfield 34, 3) := by decide +kernel
theorem dX2_copyFrom_37 : decode cX2_copyFrom 37 = .ok (.putfield 34, 3) := by decide +kernel
theorem dX2_copyFrom_40 : decode cX2_copyFrom 40 = .ok (.iconst 0, 1) := by decide +kernel
theorem dX2_copyFrom_41 : decode cX2_copyFrom 41 = .ok (.istore_n 2, 1) := by decide +kernel
theorem dX2_copyFrom_42 : decode cX2_copyFrom 42 = .ok (.iload_n 2, 1) := by decide +kernel
theorem dX2_copyFrom_43 : decode cX2_copyFrom 43 = .ok (.bipush 12, 2) := by decide +kernel
theorem dX2_copyFrom_45 : decode cX2_copyFrom 45 = .ok (.if_icmp .ge 36, 3) := by decide +kernel
theorem dX2_copyFrom_48 : decode cX2_copyFrom 48 = .ok (.aload_n 0, 1) := by decide +kernel
theorem dX2_copyFrom_49 : decode cX2_copyFrom 49 = .ok (.getfield 11, 3) := by decide +kernel
theorem dX2_copyFrom_52 : decode cX2_copyFrom 52 = .ok (.iload_n 2, 1) := by decide +kernel
theorem dX2_copyFrom_53 : decode cX2_copyFrom 53 = .ok (.aaload, 1) := by decide +kernel
theorem dX2_copyFrom_54 : decode cX2_copyFrom 54 = .ok (.aload_n 1, 1) := by decide +kernel
theorem dX2_copyFrom_55 : decode cX2_copyFrom 55 = .ok (.getfield 11, 3) := by decide +kernel
theorem dX2_copyFrom_58 : decode cX2_copyFrom 58 = .ok (.iload_n 2, 1) := by decide +kernel
theorem dX2_copyFrom_59 : decode cX2_copyFrom 59 = .ok (.aaload, 1) := by decide +kernel
theorem dX2_copyFrom_60 : decode cX2_copyFrom 60 = .ok (.invokevirtual 38, 3) := by decide +kernel
theorem dX2_copyFrom_63 : decode cX2_copyFrom 63 = .ok (.aload_n 0, 1) := by decide +kernel
theorem dX2_copyFrom_64 : decode cX2_copyFrom 64 = .ok (.getfield 30, 3) := by decide +kernel
theorem dX2_copyFrom_67 : decode cX2_copyFrom 67 = .ok (.iload_n 2, 1) := by decide +kernel
theorem dX2_copyFrom_68 : decode cX2_copyFrom 68 = .ok (.aload_n 1, 1) := by decide +kernel
theorem dX2_copyFrom_69 : decode cX2_copyFrom 69 = .ok (.getfield 30, 3) := by decide +kernel
theorem dX2_copyFrom_72 : decode cX2_copyFrom 72 = .ok (.iload_n 2, 1) := by decide +kernel
theorem dX2_copyFrom_73 : decode cX2_copyFrom 73 = .ok (.iaload, 1) := by decide +kernel
theorem dX2_copyFrom_74 : decode cX2_copyFrom 74 = .ok (.iastore, 1) := by decide +kernel
theorem dX2_copyFrom_75 : decode cX2_copyFrom 75 = .ok (.iinc 2 1, 3) := by decide +kernel
theorem dX2_copyFrom_78 : decode cX2_copyFrom 78 = .ok (.goto (-36), 3) := by decide +kernel
theorem dX2_copyFrom_81 : decode cX2_copyFrom 81 = .ok (.return_, 1) := by decide +kernel
theorem dX2_append_0 : decode cX2_append 0 = .ok (.aload_n 0, 1) := by decide +kernel
theorem dX2_append_1 : decode cX2_append 1 = .ok (.getfield 17, 3) := by decide +kernel
theorem dX2_append_4 : decode cX2_append 4 = .ok (.bipush 12, 2) := by decide +kernel
theorem dX2_append_6 : decode cX2_append 6 = .ok (.if_icmp .lt 4, 3) := by decide +kernel
theorem dX2_append_9 : decode cX2_append 9 = .ok (.return_, 1) := by decide +kernel
theorem dX2_append_10 : decode cX2_append 10 = .ok (.aload_n 0, 1) := by decide +kernel
theorem dX2_append_11 : decode cX2_append 11 = .ok (.getfield 11, 3) := by decide +kernel
theorem dX2_append_14 : decode cX2_append 14 = .ok (.aload_n 0, 1) := by decide +kernel
theorem dX2_append_15 : decode cX2_append 15 = .ok (.getfield 17, 3) := by decide +kernel
theorem dX2_append_18 : decode cX2_append 18 = .ok (.aaload, 1) := by decide +kernel
theorem dX2_append_19 : decode cX2_append 19 = .ok (.astore 5, 2) := by decide +kernel
theorem dX2_append_21 : decode cX2_append 21 = .ok (.aload 5, 2) := by decide +kernel
theorem dX2_append_23 : decode cX2_append 23 = .ok (.iload_n 1, 1) := by decide +kernel
theorem dX2_append_24 : decode cX2_append 24 = .ok (.iload_n 2, 1) := by decide +kernel
theorem dX2_append_25 : decode cX2_append 25 = .ok (.iload_n 3, 1) := by decide +kernel
theorem dX2_append_26 : decode cX2_append 26 = .ok (.iload 4, 2) := by decide +kernel
theorem dX2_append_28 : decode cX2_append 28 = .ok (.invokevirtual 42, 3) := by decide +kernel
theorem dX2_append_31 : decode cX2_append 31 = .ok (.aload 5, 2) := by decide +kernel
theorem dX2_append_33 : decode cX2_append 33 = .ok (.iconst 0, 1) := by decide +kernel
theorem dX2_append_34 : decode cX2_append 34 = .ok (.putfield 46, 3) := by decide +kernel
theorem dX2_append_37 : decode cX2_append 37 = .ok (.aload_n 0, 1) := by decide +kernel
theorem dX2_append_38 : decode cX2_append 38 = .ok (.dup, 1) := by decide +kernel
theorem dX2_append_39 : decode cX2_append 39 = .ok (.getfield 17, 3) := by decide +kernel
theorem dX2_append_42 : decode cX2_append 42 = .ok (.iconst 1, 1) := by decide +kernel
theorem dX2_append_43 : decode cX2_append 43 = .ok (.iadd, 1) := by decide +kernel
theorem dX2_append_44 : decode cX2_append 44 = .ok (.putfield 17, 3) := by decide +kernel
theorem dX2_append_47 : decode cX2_append 47 = .ok (.return_, 1) := by decide +kernel
theorem dX2_remove_0 : decode cX2_remove 0 = .ok (.aload_n 0, 1) := by decide +kernel
theorem dX2_remove_1 : decode cX2_remove 1 = .ok (.iload_n 1, 1) := by decide +kernel
theorem dX2_remove_2 : decode cX2_remove 2 = .ok (.aload_n 0, 1) := by decide +kernel
theorem dX2_remove_3 : decode cX2_remove 3 = .ok (.getfield 17, 3) := by decide +kernel
theorem dX2_remove_6 : decode cX2_remove 6 = .ok (.iconst 1, 1) := by decide +kernel
theorem dX2_remove_7 : decode cX2_remove 7 = .ok (.isub, 1) := by decide +kernel
theorem dX2_remove_8 : decode cX2_remove 8 = .ok (.invokevirtual 49, 3) := by decide +kernel
theorem dX2_remove_11 : decode cX2_remove 11 = .ok (.aload_n 0, 1) := by decide +kernel
theorem dX2_remove_12 : decode cX2_remove 12 = .ok (.dup, 1) := by decide +kernel
theorem dX2_remove_13 : decode cX2_remove 13 = .ok (.getfield 17, 3) := by decide +kernel
theorem dX2_remove_16 : decode cX2_remove 16 = .ok (.iconst 1, 1) := by decide +kernel
theorem dX2_remove_17 : decode cX2_remove 17 = .ok (.isub, 1) := by decide +kernel
theorem dX2_remove_18 : decode cX2_remove 18 = .ok (.putfield 17, 3) := by decide +kernel
theorem dX2_remove_21 : decode cX2_remove 21 = .ok (.return_, 1) := by decide +kernel
theorem dX2_move_0 : decode cX2_move 0 = .ok (.aload_n 0, 1) := by decide +kernel
theorem dX2_move_1 : decode cX2_move 1 = .ok (.getfield 11, 3) := by decide +kernel
theorem dX2_move_4 : decode cX2_move 4 = .ok (.iload_n 1, 1) := by decide +kernel
theorem dX2_move_5 : decode cX2_move 5 = .ok (.aaload, 1) := by decide +kernel
theorem dX2_move_6 : decode cX2_move 6 = .ok (.astore_n 3, 1) := by decide +kernel
theorem dX2_move_7 : decode cX2_move 7 = .ok (.iload_n 1, 1) := by decide +kernel
theorem dX2_move_8 : decode cX2_move 8 = .ok (.istore 4, 2) := by decide +kernel
theorem dX2_move_10 : decode cX2_move 10 = .ok (.iload 4, 2) := by decide +kernel
theorem dX2_move_12 : decode cX2_move 12 = .ok (.iload_n 2, 1) := by decide +kernel
theorem dX2_move_13 : decode cX2_move 13 = .ok (.if_icmp .ge 25, 3) := by decide +kernel
theorem dX2_move_16 : decode cX2_move 16 = .ok (.aload_n 0, 1) := by decide +kernel
theorem dX2_move_17 : decode cX2_move 17 = .ok (.getfield 11, 3) := by decide +kernel
theorem dX2_move_20 : decode cX2_move 20 = .ok (.iload 4, 2) := by decide +kernel
theorem dX2_move_22 : decode cX2_move 22 = .ok (.aload_n 0, 1) := by decide +kernel
theorem dX2_move_23 : decode cX2_move 23 = .ok (.getfield 11, 3) := by decide +kernel
theorem dX2_move_26 : decode cX2_move 26 = .ok (.iload 4, 2) := by decide +kernel
theorem dX2_move_28 : decode cX2_move 28 = .ok (.iconst 1, 1) := by decide +kernel
theorem dX2_move_29 : decode cX2_move 29 = .ok (.iadd, 1) := by decide +kernel
theorem dX2_move_30 : decode cX2_move 30 = .ok (.aaload, 1) := by decide +kernel
theorem dX2_move_31 : decode cX2_move 31 = .ok (.aastore, 1) := by decide +kernel
theorem dX2_move_32 : decode cX2_move 32 = .ok (.iinc 4 1, 3) := by decide +kernel
theorem dX2_move_35 : decode cX2_move 35 = .ok (.goto (-25), 3) := by decide +kernel
theorem dX2_move_38 : decode cX2_move 38 = .ok (.iload_n 1, 1) := by decide +kernel
theorem dX2_move_39 : decode cX2_move 39 = .ok (.istore 4, 2) := by decide +kernel
theorem dX2_move_41 : decode cX2_move 41 = .ok (.iload 4, 2) := by decide +kernel
theorem dX2_move_43 : decode cX2_move 43 = .ok (.iload_n 2, 1) := by decide +kernel
theorem dX2_move_44 : decode cX2_move 44 = .ok (.if_icmp .le 25, 3) := by decide +kernel
theorem dX2_move_47 : decode cX2_move 47 = .ok (.aload_n 0, 1) := by decide +kernel
theorem dX2_move_48 : decode cX2_move 48 = .ok (.getfield 11, 3) := by decide +kernel
theorem dX2_move_51 : decode cX2_move 51 = .ok (.iload 4, 2) := by decide +kernel
theorem dX2_move_53 : decode cX2_move 53 = .ok (.aload_n 0, 1) := by decide +kernel
theorem dX2_move_54 : decode cX2_move 54 = .ok (.getfield 11, 3) := by decide +kernel
theorem dX2_move_57 : decode cX2_move 57 = .ok (.iload 4, 2) := by decide +kernel
theorem dX2_move_59 : decode cX2_move 59 = .ok (.iconst 1, 1) := by decide +kernel
theorem dX2_move_60 : decode cX2_move 60 = .ok (.isub, 1) := by decide +kernel
theorem dX2_move_61 : decode cX2_move 61 = .ok (.aaload, 1) := by decide +kernel
theorem dX2_move_62 : decode cX2_move 62 = .ok (.aastore, 1) := by decide +kernel
theorem dX2_move_63 : decode cX2_move 63 = .ok (.iinc 4 (-1), 3) := by decide +kernel
theorem dX2_move_66 : decode cX2_move 66 = .ok (.goto (-25), 3) := by decide +kernel
theorem dX2_move_69 : decode cX2_move 69 = .ok (.aload_n 0, 1) := by decide +kernel
theorem dX2_move_70 : decode cX2_move 70 = .ok (.getfield 11, 3) := by decide +kernel
theorem dX2_move_73 : decode cX2_move 73 = .ok (.iload_n 2, 1) := by decide +kernel
theorem dX2_move_74 : decode cX2_move 74 = .ok (.aload_n 3, 1) := by decide +kernel
theorem dX2_move_75 : decode cX2_move 75 = .ok (.aastore, 1) := by decide +kernel
theorem dX2_move_76 : decode cX2_move 76 = .ok (.return_, 1) := by decide +kernel
theorem dX2_recordRun_0 : decode cX2_recordRun 0 = .ok (.aload_n 0, 1) := by decide +kernel
theorem dX2_recordRun_1 : decode cX2_recordRun 1 = .ok (.dup, 1) := by decide +kernel
theorem dX2_recordRun_2 : decode cX2_recordRun 2 = .ok (.getfield 24, 3) := by decide +kernel
theorem dX2_recordRun_5 : decode cX2_recordRun 5 = .ok (.iconst 1, 1) := by decide +kernel
theorem dX2_recordRun_6 : decode cX2_recordRun 6 = .ok (.iadd, 1) := by decide +kernel
theorem dX2_recordRun_7 : decode cX2_recordRun 7 = .ok (.putfield 24, 3) := by decide +kernel
theorem dX2_recordRun_10 : decode cX2_recordRun 10 = .ok (.aload_n 0, 1) := by decide +kernel
theorem dX2_recordRun_11 : decode cX2_recordRun 11 = .ok (.getfield 34, 3) := by decide +kernel
theorem dX2_recordRun_14 : decode cX2_recordRun 14 = .ok (.bipush 12, 2) := by decide +kernel
theorem dX2_recordRun_16 : decode cX2_recordRun 16 = .ok (.if_icmp .ge 23, 3) := by decide +kernel
theorem dX2_recordRun_19 : decode cX2_recordRun 19 = .ok (.aload_n 0, 1) := by decide +kernel
theorem dX2_recordRun_20 : decode cX2_recordRun 20 = .ok (.getfield 30, 3) := by decide +kernel
theorem dX2_recordRun_23 : decode cX2_recordRun 23 = .ok (.aload_n 0, 1) := by decide +kernel
theorem dX2_recordRun_24 : decode cX2_recordRun 24 = .ok (.getfield 34, 3) := by decide +kernel
theorem dX2_recordRun_27 : decode cX2_recordRun 27 = .ok (.iload_n 1, 1) := by decide +kernel
theorem dX2_recordRun_28 : decode cX2_recordRun 28 = .ok (.iastore, 1) := by decide +kernel
theorem dX2_recordRun_29 : decode cX2_recordRun 29 = .ok (.aload_n 0, 1) := by decide +kernel
theorem dX2_recordRun_30 : decode cX2_recordRun 30 = .ok (.dup, 1) := by decide +kernel
theorem dX2_recordRun_31 : decode cX2_recordRun 31 = .ok (.getfield 34, 3) := by decide +kernel
theorem dX2_recordRun_34 : decode cX2_recordRun 34 = .ok (.iconst 1, 1) := by decide +kernel
theorem dX2_recordRun_35 : decode cX2_recordRun 35 = .ok (.iadd, 1) := by decide +kernel
theorem dX2_recordRun_36 : decode cX2_recordRun 36 = .ok (.putfield 34, 3) := by decide +kernel
theorem dX2_recordRun_39 : decode cX2_recordRun 39 = .ok (.return_, 1) := by decide +kernel
theorem dX3_init_0 : decode cX3_init 0 = .ok (.aload_n 0, 1) := by decide +kernel
theorem dX3_init_1 : decode cX3_init 1 = .ok (.invokespecial 3, 3) := by decide +kernel
theorem dX3_init_4 : decode cX3_init 4 = .ok (.aload_n 0, 1) := by decide +kernel
theorem dX3_init_5 : decode cX3_init 5 = .ok (.new 9, 3) := by decide +kernel
theorem dX3_init_8 : decode cX3_init 8 = .ok (.dup, 1) := by decide +kernel
theorem dX3_init_9 : decode cX3_init 9 = .ok (.invokespecial 11, 3) := by decide +kernel
theorem dX3_init_12 : decode cX3_init 12 = .ok (.putfield 12, 3) := by decide +kernel
theorem dX3_init_15 : decode cX3_init 15 = .ok (.aload_n 0, 1) := by decide +kernel
theorem dX3_init_16 : decode cX3_init 16 = .ok (.iconst 4, 1) := by decide +kernel
theorem dX3_init_17 : decode cX3_init 17 = .ok (.anewarray 9, 3) := by decide +kernel
theorem dX3_init_20 : decode cX3_init 20 = .ok (.putfield 16, 3) := by decide +kernel
theorem dX3_init_23 : decode cX3_init 23 = .ok (.aload_n 0, 1) := by decide +kernel
theorem dX3_init_24 : decode cX3_init 24 = .ok (.iconst 0, 1) := by decide +kernel
theorem dX3_init_25 : decode cX3_init 25 = .ok (.putfield 20, 3) := by decide +kernel
theorem dX3_init_28 : decode cX3_init 28 = .ok (.aload_n 0, 1) := by decide +kernel
theorem dX3_init_29 : decode cX3_init 29 = .ok (.iconst 3, 1) := by decide +kernel
theorem dX3_init_30 : decode cX3_init 30 = .ok (.newarray .int, 2) := by decide +kernel
theorem dX3_init_32 : decode cX3_init 32 = .ok (.putfield 24, 3) := by decide +kernel
theorem dX3_init_35 : decode cX3_init 35 = .ok (.aload_n 0, 1) := by decide +kernel
theorem dX3_init_36 : decode cX3_init 36 = .ok (.new 28, 3) := by decide +kernel
theorem dX3_init_39 : decode cX3_init 39 = .ok (.dup, 1) := by decide +kernel
theorem dX3_init_40 : decode cX3_init 40 = .ok (.invokespecial 30, 3) := by decide +kernel
theorem dX3_init_43 : decode cX3_init 43 = .ok (.putfield 31, 3) := by decide +kernel
theorem dX3_init_46 : decode cX3_init 46 = .ok (.aload_n 0, 1) := by decide +kernel
theorem dX3_init_47 : decode cX3_init 47 = .ok (.iconst 0, 1) := by decide +kernel
theorem dX3_init_48 : decode cX3_init 48 = .ok (.putfield 35, 3) := by decide +kernel
theorem dX3_init_51 : decode cX3_init 51 = .ok (.iconst 0, 1) := by decide +kernel
theorem dX3_init_52 : decode cX3_init 52 = .ok (.istore_n 1, 1) := by decide +kernel
theorem dX3_init_53 : decode cX3_init 53 = .ok (.iload_n 1, 1) := by decide +kernel
theorem dX3_init_54 : decode cX3_init 54 = .ok (.iconst 4, 1) := by decide +kernel
theorem dX3_init_55 : decode cX3_init 55 = .ok (.if_icmp .ge 22, 3) := by decide +kernel
theorem dX3_init_58 : decode cX3_init 58 = .ok (.aload_n 0, 1) := by decide +kernel
theorem dX3_init_59 : decode cX3_init 59 = .ok (.getfield 16, 3) := by decide +kernel
theorem dX3_init_62 : decode cX3_init 62 = .ok (.iload_n 1, 1) := by decide +kernel
theorem dX3_init_63 : decode cX3_init 63 = .ok (.new 9, 3) := by decide +kernel
theorem dX3_init_66 : decode cX3_init 66 = .ok (.dup, 1) := by decide +kernel
theorem dX3_init_67 : decode cX3_init 67 = .ok (.invokespecial 11, 3) := by decide +kernel
theorem dX3_init_70 : decode cX3_init 70 = .ok (.aastore, 1) := by decide +kernel
theorem dX3_init_71 : decode cX3_init 71 = .ok (.iinc 1 1, 3) := by decide +kernel
theorem dX3_init_74 : decode cX3_init 74 = .ok (.goto (-21), 3) := by decide +kernel
theorem dX3_init_77 : decode cX3_init 77 = .ok (.return_, 1) := by decide +kernel
theorem dX3_addCell_0 : decode cX3_addCell 0 = .ok (.iload_n 1, 1) := by decide +kernel
theorem dX3_addCell_1 : decode cX3_addCell 1 = .ok (.iload_n 2, 1) := by decide +kernel
theorem dX3_addCell_2 : decode cX3_addCell 2 = .ok (.iload_n 3, 1) := by decide +kernel
theorem dX3_addCell_3 : decode cX3_addCell 3 = .ok (.iload 4, 2) := by decide +kernel
theorem dX3_addCell_5 : decode cX3_addCell 5 = .ok (.invokestatic 38, 3) := by decide +kernel
theorem dX3_addCell_8 : decode cX3_addCell 8 = .ok (.ifCond .ne 11, 3) := by decide +kernel
theorem dX3_addCell_11 : decode cX3_addCell 11 = .ok (.aload_n 0, 1) := by decide +kernel
theorem dX3_addCell_12 : decode cX3_addCell 12 = .ok (.sipush (-10002), 3) := by decide +kernel
theorem dX3_addCell_15 : decode cX3_addCell 15 = .ok (.invokevirtual 42, 3) := by decide +kernel
theorem dX3_addCell_18 : decode cX3_addCell 18 = .ok (.ireturn, 1) := by decide +kernel
theorem dX3_addCell_19 : decode cX3_addCell 19 = .ok (.aload_n 0, 1) := by decide +kernel
theorem dX3_addCell_20 : decode cX3_addCell 20 = .ok (.getfield 12, 3) := by decide +kernel
theorem dX3_addCell_23 : decode cX3_addCell 23 = .ok (.getfield 46, 3) := by decide +kernel
theorem dX3_addCell_26 : decode cX3_addCell 26 = .ok (.bipush 12, 2) := by decide +kernel
theorem dX3_addCell_28 : decode cX3_addCell 28 = .ok (.if_icmp .lt 11, 3) := by decide +kernel
theorem dX3_addCell_31 : decode cX3_addCell 31 = .ok (.aload_n 0, 1) := by decide +kernel
theorem dX3_addCell_32 : decode cX3_addCell 32 = .ok (.sipush (-10004), 3) := by decide +kernel
theorem dX3_addCell_35 : decode cX3_addCell 35 = .ok (.invokevirtual 42, 3) := by decide +kernel
theorem dX3_addCell_38 : decode cX3_addCell 38 = .ok (.ireturn, 1) := by decide +kernel
theorem dX3_addCell_39 : decode cX3_addCell 39 = .ok (.aload_n 0, 1) := by decide +kernel
theorem dX3_addCell_40 : decode cX3_addCell 40 = .ok (.invokevirtual 49, 3) := by decide +kernel
theorem dX3_addCell_43 : decode cX3_addCell 43 = .ok (.aload_n 0, 1) := by decide +kernel
theorem dX3_addCell_44 : decode cX3_addCell 44 = .ok (.getfield 12, 3) := by decide +kernel
theorem dX3_addCell_47 : decode cX3_addCell 47 = .ok (.iload_n 1, 1) := by decide +kernel
theorem dX3_addCell_48 : decode cX3_addCell 48 = .ok (.iload_n 2, 1) := by decide +kernel
theorem dX3_addCell_49 : decode cX3_addCell 49 = .ok (.iload_n 3, 1) := by decide +kernel
theorem dX3_addCell_50 : decode cX3_addCell 50 = .ok (.iload 4, 2) := by decide +kernel
theorem dX3_addCell_52 : decode cX3_addCell 52 = .ok (.invokevirtual 52, 3) := by decide +kernel
theorem dX3_addCell_55 : decode cX3_addCell 55 = .ok (.aload_n 0, 1) := by decide +kernel
theorem dX3_addCell_56 : decode cX3_addCell 56 = .ok (.invokevirtual 56, 3) := by decide +kernel
theorem dX3_addCell_59 : decode cX3_addCell 59 = .ok (.aload_n 0, 1) := by decide +kernel
theorem dX3_addCell_60 : decode cX3_addCell 60 = .ok (.getfield 12, 3) := by decide +kernel
theorem dX3_addCell_63 : decode cX3_addCell 63 = .ok (.getfield 46, 3) := by decide +kernel
theorem dX3_addCell_66 : decode cX3_addCell 66 = .ok (.iconst 1, 1) := by decide +kernel
theorem dX3_addCell_67 : decode cX3_addCell 67 = .ok (.isub, 1) := by decide +kernel
theorem dX3_addCell_68 : decode cX3_addCell 68 = .ok (.ireturn, 1) := by decide +kernel
theorem dX3_editCell_0 : decode cX3_editCell 0 = .ok (.aload_n 0, 1) := by decide +kernel
theorem dX3_editCell_1 : decode cX3_editCell 1 = .ok (.iload_n 1, 1) := by decide +kernel
theorem dX3_editCell_2 : decode cX3_editCell 2 = .ok (.invokevirtual 59, 3) := by decide +kernel
theorem dX3_editCell_5 : decode cX3_editCell 5 = .ok (.ifCond .eq 15, 3) := by decide +kernel
theorem dX3_editCell_8 : decode cX3_editCell 8 = .ok (.iload_n 2, 1) := by decide +kernel
theorem dX3_editCell_9 : decode cX3_editCell 9 = .ok (.iload_n 3, 1) := by decide +kernel
theorem dX3_editCell_10 : decode cX3_editCell 10 = .ok (.iload 4, 2) := by decide +kernel
theorem dX3_editCell_12 : decode cX3_editCell 12 = .ok (.iload 5, 2) := by decide +kernel
theorem dX3_editCell_14 : decode cX3_editCell 14 = .ok (.invokestatic 38, 3) := by decide +kernel
theorem dX3_editCell_17 : decode cX3_editCell 17 = .ok (.ifCond .ne 11, 3) := by decide +kernel
theorem dX3_editCell_20 : decode cX3_editCell 20 = .ok (.aload_n 0, 1) := by decide +kernel
theorem dX3_editCell_21 : decode cX3_editCell 21 = .ok (.sipush (-10002), 3) := by decide +kernel
theorem dX3_editCell_24 : decode cX3_editCell 24 = .ok (.invokevirtual 42, 3) := by decide +kernel
theorem dX3_editCell_27 : decode cX3_editCell 27 = .ok (.ireturn, 1) := by decide +kernel
theorem dX3_editCell_28 : decode cX3_editCell 28 = .ok (.aload_n 0, 1) := by decide +kernel
theorem dX3_editCell_29 : decode cX3_editCell 29 = .ok (.invokevirtual 49, 3) := by decide +kernel
theorem dX3_editCell_32 : decode cX3_editCell 32 = .ok (.aload_n 0, 1) := by decide +kernel
theorem dX3_editCell_33 : decode cX3_editCell 33 = .ok (.getfield 12, 3) := by decide +kernel
theorem dX3_editCell_36 : decode cX3_editCell 36 = .ok (.getfield 63, 3) := by decide +kernel
theorem dX3_editCell_39 : decode cX3_editCell 39 = .ok (.iload_n 1, 1) := by decide +kernel
theorem dX3_editCell_40 : decode cX3_editCell 40 = .ok (.aaload, 1) := by decide +kernel
theorem dX3_editCell_41 : decode cX3_editCell 41 = .ok (.astore 6, 2) := by decide +kernel
theorem dX3_editCell_43 : decode cX3_editCell 43 = .ok (.aload 6, 2) := by decide +kernel
theorem dX3_editCell_45 : decode cX3_editCell 45 = .ok (.getfield 67, 3) := by decide +kernel
theorem dX3_editCell_48 : decode cX3_editCell 48 = .ok (.istore 7, 2) := by decide +kernel
theorem dX3_editCell_50 : decode cX3_editCell 50 = .ok (.aload 6, 2) := by decide +kernel
theorem dX3_editCell_52 : decode cX3_editCell 52 = .ok (.iload_n 2, 1) := by decide +kernel
theorem dX3_editCell_53 : decode cX3_editCell 53 = .ok (.iload_n 3, 1) := by decide +kernel
theorem dX3_editCell_54 : decode cX3_editCell 54 = .ok (.iload 4, 2) := by decide +kernel
theorem dX3_editCell_56 : decode cX3_editCell 56 = .ok (.iload 5, 2) := by decide +kernel
theorem dX3_editCell_58 : decode cX3_editCell 58 = .ok (.invokevirtual 72, 3) := by decide +kernel
theorem dX3_editCell_61 : decode cX3_editCell 61 = .ok (.aload_n 0, 1) := by decide +kernel
theorem dX3_editCell_62 : decode cX3_editCell 62 = .ok (.invokevirtual 56, 3) := by decide +kernel
theorem dX3_editCell_65 : decode cX3_editCell 65 = .ok (.iload 7, 2) := by decide +kernel
theorem dX3_editCell_67 : decode cX3_editCell 67 = .ok (.ireturn, 1) := by decide +kernel
theorem dX3_deleteCell_0 : decode cX3_deleteCell 0 = .ok (.aload_n 0, 1) := by decide +kernel
theorem dX3_deleteCell_1 : decode cX3_deleteCell 1 = .ok (.iload_n 1, 1) := by decide +kernel
theorem dX3_deleteCell_2 : decode cX3_deleteCell 2 = .ok (.invokevirtual 59, 3) := by decide +kernel
theorem dX3_deleteCell_5 : decode cX3_deleteCell 5 = .ok (.ifCond .ne 11, 3) := by decide +kernel
theorem dX3_deleteCell_8 : decode cX3_deleteCell 8 = .ok (.aload_n 0, 1) := by decide +kernel
theorem dX3_deleteCell_9 : decode cX3_deleteCell 9 = .ok (.sipush (-10002), 3) := by decide +kernel
theorem dX3_deleteCell_12 : decode cX3_deleteCell 12 = .ok (.invokevirtual 42, 3) := by decide +kernel
theorem dX3_deleteCell_15 : decode cX3_deleteCell 15 = .ok (.ireturn, 1) := by decide +kernel
theorem dX3_deleteCell_16 : decode cX3_deleteCell 16 = .ok (.aload_n 0, 1) := by decide +kernel
theorem dX3_deleteCell_17 : decode cX3_deleteCell 17 = .ok (.invokevirtual 49, 3) := by decide +kernel
theorem dX3_deleteCell_20 : decode cX3_deleteCell 20 = .ok (.aload_n 0, 1) := by decide +kernel
theorem dX3_deleteCell_21 : decode cX3_deleteCell 21 = .ok (.getfield 12, 3) := by decide +kernel
theorem dX3_deleteCell_24 : decode cX3_deleteCell 24 = .ok (.iload_n 1, 1) := by decide +kernel
theorem dX3_deleteCell_25 : decode cX3_deleteCell 25 = .ok (.invokevirtual 75, 3) := by decide +kernel
theorem dX3_deleteCell_28 : decode cX3_deleteCell 28 = .ok (.aload_n 0, 1) := by decide +kernel
theorem dX3_deleteCell_29 : decode cX3_deleteCell 29 = .ok (.invokevirtual 56, 3) := by decide +kernel
theorem dX3_deleteCell_32 : decode cX3_deleteCell 32 = .ok (.aload_n 0, 1) := by decide +kernel
theorem dX3_deleteCell_33 : decode cX3_deleteCell 33 = .ok (.getfield 12, 3) := by decide +kernel
theorem dX3_deleteCell_36 : decode cX3_deleteCell 36 = .ok (.getfield 46, 3) := by decide +kernel
theorem dX3_deleteCell_39 : decode cX3_deleteCell 39 = .ok (.ireturn, 1) := by decide +kernel
theorem dX3_moveCell_0 : decode cX3_moveCell 0 = .ok (.aload_n 0, 1) := by decide +kernel
theorem dX3_moveCell_1 : decode cX3_moveCell 1 = .ok (.iload_n 1, 1) := by decide +kernel
theorem dX3_moveCell_2 : decode cX3_moveCell 2 = .ok (.invokevirtual 59, 3) := by decide +kernel
theorem dX3_moveCell_5 : decode cX3_moveCell 5 = .ok (.ifCond .eq 11, 3) := by decide +kernel
theorem dX3_moveCell_8 : decode cX3_moveCell 8 = .ok (.aload_n 0, 1) := by decide +kernel
theorem dX3_moveCell_9 : decode cX3_moveCell 9 = .ok (.iload_n 2, 1) := by decide +kernel
theorem dX3_moveCell_10 : decode cX3_moveCell 10 = .ok (.invokevirtual 59, 3) := by decide +kernel
theorem dX3_moveCell_13 : decode cX3_moveCell 13 = .ok (.ifCond .ne 11, 3) := by decide +kernel
theorem dX3_moveCell_16 : decode cX3_moveCell 16 = .ok (.aload_n 0, 1) := by decide +kernel
theorem dX3_moveCell_17 : decode cX3_moveCell 17 = .ok (.sipush (-10002), 3) := by decide +kernel
theorem dX3_moveCell_20 : decode cX3_moveCell 20 = .ok (.invokevirtual 42, 3) := by decide +kernel
theorem dX3_moveCell_23 : decode cX3_moveCell 23 = .ok (.ireturn, 1) := by decide +kernel
theorem dX3_moveCell_24 : decode cX3_moveCell 24 = .ok (.aload_n 0, 1) := by decide +kernel
theorem dX3_moveCell_25 : decode cX3_moveCell 25 = .ok (.invokevirtual 49, 3) := by decide +kernel
theorem dX3_moveCell_28 : decode cX3_moveCell 28 = .ok (.aload_n 0, 1) := by decide +kernel
theorem dX3_moveCell_29 : decode cX3_moveCell 29 = .ok (.getfield 12, 3) := by decide +kernel
theorem dX3_moveCell_32 : decode cX3_moveCell 32 = .ok (.iload_n 1, 1) := by decide +kernel
theorem dX3_moveCell_33 : decode cX3_moveCell 33 = .ok (.iload_n 2, 1) := by decide +kernel
theorem dX3_moveCell_34 : decode cX3_moveCell 34 = .ok (.invokevirtual 79, 3) := by decide +kernel
theorem dX3_moveCell_37 : decode cX3_moveCell 37 = .ok (.aload_n 0, 1) := by decide +kernel
theorem dX3_moveCell_38 : decode cX3_moveCell 38 = .ok (.invokevirtual 56, 3) := by decide +kernel
theorem dX3_moveCell_41 : decode cX3_moveCell 41 = .ok (.iload_n 1, 1) := by decide +kernel
theorem dX3_moveCell_42 : decode cX3_moveCell 42 = .ok (.iload_n 2, 1) := by decide +kernel
theorem dX3_moveCell_43 : decode cX3_moveCell 43 = .ok (.if_icmp .ne 7, 3) := by decide +kernel
theorem dX3_moveCell_46 : decode cX3_moveCell 46 = .ok (.iconst 0, 1) := by decide +kernel
theorem dX3_moveCell_47 : decode cX3_moveCell 47 = .ok (.goto 11, 3) := by decide +kernel
theorem dX3_moveCell_50 : decode cX3_moveCell 50 = .ok (.iload_n 2, 1) := by decide +kernel
theorem dX3_moveCell_51 : decode cX3_moveCell 51 = .ok (.iload_n 1, 1) := by decide +kernel
theorem dX3_moveCell_52 : decode cX3_moveCell 52 = .ok (.isub, 1) := by decide +kernel
theorem dX3_moveCell_53 : decode cX3_moveCell 53 = .ok (.invokestatic 83, 3) := by decide +kernel
theorem dX3_moveCell_56 : decode cX3_moveCell 56 = .ok (.iconst 1, 1) := by decide +kernel
theorem dX3_moveCell_57 : decode cX3_moveCell 57 = .ok (.iadd, 1) := by decide +kernel
theorem dX3_moveCell_58 : decode cX3_moveCell 58 = .ok (.ireturn, 1) := by decide +kernel
theorem dX3_setEager_0 : decode cX3_setEager 0 = .ok (.iload_n 1, 1) := by decide +kernel
theorem dX3_setEager_1 : decode cX3_setEager 1 = .ok (.ifCond .eq 16, 3) := by decide +kernel
theorem dX3_setEager_4 : decode cX3_setEager 4 = .ok (.iload_n 1, 1) := by decide +kernel
theorem dX3_setEager_5 : decode cX3_setEager 5 = .ok (.iconst 1, 1) := by decide +kernel
theorem dX3_setEager_6 : decode cX3_setEager 6 = .ok (.if_icmp .eq 11, 3) := by decide +kernel
theorem dX3_setEager_9 : decode cX3_setEager 9 = .ok (.aload_n 0, 1) := by decide +kernel
theorem dX3_setEager_10 : decode cX3_setEager 10 = .ok (.sipush (-10002), 3) := by decide +kernel
theorem dX3_setEager_13 : decode cX3_setEager 13 = .ok (.invokevirtual 42, 3) := by decide +kernel
theorem dX3_setEager_16 : decode cX3_setEager 16 = .ok (.ireturn, 1) := by decide +kernel
theorem dX3_setEager_17 : decode cX3_setEager 17 = .ok (.aload_n 0, 1) := by decide +kernel
theorem dX3_setEager_18 : decode cX3_setEager 18 = .ok (.invokevirtual 49, 3) := by decide +kernel
theorem dX3_setEager_21 : decode cX3_setEager 21 = .ok (.aload_n 0, 1) := by decide +kernel
theorem dX3_setEager_22 : decode cX3_setEager 22 = .ok (.getfield 12, 3) := by decide +kernel
theorem dX3_setEager_25 : decode cX3_setEager 25 = .ok (.getfield 88, 3) := by decide +kernel
theorem dX3_setEager_28 : decode cX3_setEager 28 = .ok (.istore_n 2, 1) := by decide +kernel
theorem dX3_setEager_29 : decode cX3_setEager 29 = .ok (.aload_n 0, 1) := by decide +kernel
theorem dX3_setEager_30 : decode cX3_setEager 30 = .ok (.getfield 12, 3) := by decide +kernel
theorem dX3_setEager_33 : decode cX3_setEager 33 = .ok (.iload_n 1, 1) := by decide +kernel
theorem dX3_setEager_34 : decode cX3_setEager 34 = .ok (.putfield 88, 3) := by decide +kernel
theorem dX3_setEager_37 : decode cX3_setEager 37 = .ok (.aload_n 0, 1) := by decide +kernel
theorem dX3_setEager_38 : decode cX3_setEager 38 = .ok (.invokevirtual 56, 3) := by decide +kernel
theorem dX3_setEager_41 : decode cX3_setEager 41 = .ok (.iload_n 2, 1) := by decide +kernel
theorem dX3_setEager_42 : decode cX3_setEager 42 = .ok (.ireturn, 1) := by decide +kernel
theorem dX3_runStale_0 : decode cX3_runStale 0 = .ok (.aload_n 0, 1) := by decide +kernel
theorem dX3_runStale_1 : decode cX3_runStale 1 = .ok (.invokevirtual 49, 3) := by decide +kernel
theorem dX3_runStale_4 : decode cX3_runStale 4 = .ok (.aload_n 0, 1) := by decide +kernel
theorem dX3_runStale_5 : decode cX3_runStale 5 = .ok (.invokevirtual 91, 3) := by decide +kernel
theorem dX3_runStale_8 : decode cX3_runStale 8 = .ok (.aload_n 0, 1) := by decide +kernel
theorem dX3_runStale_9 : decode cX3_runStale 9 = .ok (.sipush 4095, 3) := by decide +kernel
theorem dX3_runStale_12 : decode cX3_runStale 12 = .ok (.invokevirtual 94, 3) := by decide +kernel
theorem dX3_runStale_15 : decode cX3_runStale 15 = .ok (.aload_n 0, 1) := by decide +kernel
theorem dX3_runStale_16 : decode cX3_runStale 16 = .ok (.getfield 12, 3) := by decide +kernel
theorem dX3_runStale_19 : decode cX3_runStale 19 = .ok (.getfield 97, 3) := by decide +kernel
theorem dX3_runStale_22 : decode cX3_runStale 22 = .ok (.ireturn, 1) := by decide +kernel
theorem dX3_runCell_0 : decode cX3_runCell 0 = .ok (.aload_n 0, 1) := by decide +kernel
theorem dX3_runCell_1 : decode cX3_runCell 1 = .ok (.iload_n 1, 1) := by decide +kernel
theorem dX3_runCell_2 : decode cX3_runCell 2 = .ok (.invokevirtual 59, 3) := by decide +kernel
theorem dX3_runCell_5 : decode cX3_runCell 5 = .ok (.ifCond .ne 11, 3) := by decide +kernel
theorem dX3_runCell_8 : decode cX3_runCell 8 = .ok (.aload_n 0, 1) := by decide +kernel
theorem dX3_runCell_9 : decode cX3_runCell 9 = .ok (.sipush (-10002), 3) := by decide +kernel
theorem dX3_runCell_12 : decode cX3_runCell 12 = .ok (.invokevirtual 42, 3) := by decide +kernel
theorem dX3_runCell_15 : decode cX3_runCell 15 = .ok (.ireturn, 1) := by decide +kernel
theorem dX3_runCell_16 : decode cX3_runCell 16 = .ok (.aload_n 0, 1) := by decide +kernel
theorem dX3_runCell_17 : decode cX3_runCell 17 = .ok (.getfield 31, 3) := by decide +kernel
theorem dX3_runCell_20 : decode cX3_runCell 20 = .ok (.getfield 100, 3) := by decide +kernel
theorem dX3_runCell_23 : decode cX3_runCell 23 = .ok (.iload_n 1, 1) := by decide +kernel
theorem dX3_runCell_24 : decode cX3_runCell 24 = .ok (.iaload, 1) := by decide +kernel
theorem dX3_runCell_25 : decode cX3_runCell 25 = .ok (.ifCond .eq 11, 3) := by decide +kernel
theorem dX3_runCell_28 : decode cX3_runCell 28 = .ok (.aload_n 0, 1) := by decide +kernel
theorem dX3_runCell_29 : decode cX3_runCell 29 = .ok (.sipush (-10003), 3) := by decide +kernel
theorem dX3_runCell_32 : decode cX3_runCell 32 = .ok (.invokevirtual 42, 3) := by decide +kernel
theorem dX3_runCell_35 : decode cX3_runCell 35 = .ok (.ireturn, 1) := by decide +kernel
theorem dX3_runCell_36 : decode cX3_runCell 36 = .ok (.aload_n 0, 1) := by decide +kernel
theorem dX3_runCell_37 : decode cX3_runCell 37 = .ok (.invokevirtual 49, 3) := by decide +kernel
theorem dX3_runCell_40 : decode cX3_runCell 40 = .ok (.aload_n 0, 1) := by decide +kernel
theorem dX3_runCell_41 : decode cX3_runCell 41 = .ok (.invokevirtual 91, 3) := by decide +kernel
theorem dX3_runCell_44 : decode cX3_runCell 44 = .ok (.aload_n 0, 1) := by decide +kernel
theorem dX3_runCell_45 : decode cX3_runCell 45 = .ok (.aload_n 0, 1) := by decide +kernel
theorem dX3_runCell_46 : decode cX3_runCell 46 = .ok (.getfield 31, 3) := by decide +kernel
theorem dX3_runCell_49 : decode cX3_runCell 49 = .ok (.getfield 103, 3) := by decide +kernel
theorem dX3_runCell_52 : decode cX3_runCell 52 = .ok (.iload_n 1, 1) := by decide +kernel
theorem dX3_runCell_53 : decode cX3_runCell 53 = .ok (.iaload, 1) := by decide +kernel
theorem dX3_runCell_54 : decode cX3_runCell 54 = .ok (.iconst 1, 1) := by decide +kernel
theorem dX3_runCell_55 : decode cX3_runCell 55 = .ok (.iload_n 1, 1) := by decide +kernel
theorem dX3_runCell_56 : decode cX3_runCell 56 = .ok (.ishl, 1) := by decide +kernel
theorem dX3_runCell_57 : decode cX3_runCell 57 = .ok (.ior, 1) := by decide +kernel
theorem dX3_runCell_58 : decode cX3_runCell 58 = .ok (.invokevirtual 94, 3) := by decide +kernel
theorem dX3_runCell_61 : decode cX3_runCell 61 = .ok (.aload_n 0, 1) := by decide +kernel
theorem dX3_runCell_62 : decode cX3_runCell 62 = .ok (.getfield 12, 3) := by decide +kernel
theorem dX3_runCell_65 : decode cX3_runCell 65 = .ok (.getfield 97, 3) := by decide +kernel
theorem dX3_runCell_68 : decode cX3_runCell 68 = .ok (.ireturn, 1) := by decide +kernel
theorem dX3_lastRunCount_0 : decode cX3_lastRunCount 0 = .ok (.aload_n 0, 1) := by decide +kernel
theorem dX3_lastRunCount_1 : decode cX3_lastRunCount 1 = .ok (.getfield 12, 3) := by decide +kernel
theorem dX3_lastRunCount_4 : decode cX3_lastRunCount 4 = .ok (.getfield 97, 3) := by decide +kernel
theorem dX3_lastRunCount_7 : decode cX3_lastRunCount 7 = .ok (.ireturn, 1) := by decide +kernel
theorem dX3_lastRun_0 : decode cX3_lastRun 0 = .ok (.iload_n 1, 1) := by decide +kernel
theorem dX3_lastRun_1 : decode cX3_lastRun 1 = .ok (.ifCond .ge 11, 3) := by decide +kernel
theorem dX3_lastRun_4 : decode cX3_lastRun 4 = .ok (.aload_n 0, 1) := by decide +kernel
theorem dX3_lastRun_5 : decode cX3_lastRun 5 = .ok (.sipush (-10002), 3) := by decide +kernel
theorem dX3_lastRun_8 : decode cX3_lastRun 8 = .ok (.invokevirtual 42, 3) := by decide +kernel
theorem dX3_lastRun_11 : decode cX3_lastRun 11 = .ok (.ireturn, 1) := by decide +kernel
theorem dX3_lastRun_12 : decode cX3_lastRun 12 = .ok (.iload_n 1, 1) := by decide +kernel
theorem dX3_lastRun_13 : decode cX3_lastRun 13 = .ok (.aload_n 0, 1) := by decide +kernel
theorem dX3_lastRun_14 : decode cX3_lastRun 14 = .ok (.getfield 12, 3) := by decide +kernel
theorem dX3_lastRun_17 : decode cX3_lastRun 17 = .ok (.getfield 97, 3) := by decide +kernel
theorem dX3_lastRun_20 : decode cX3_lastRun 20 = .ok (.if_icmp .ge 15, 3) := by decide +kernel
theorem dX3_lastRun_23 : decode cX3_lastRun 23 = .ok (.aload_n 0, 1) := by decide +kernel
theorem dX3_lastRun_24 : decode cX3_lastRun 24 = .ok (.getfield 12, 3) := by decide +kernel
theorem dX3_lastRun_27 : decode cX3_lastRun 27 = .ok (.getfield 106, 3) := by decide +kernel
theorem dX3_lastRun_30 : decode cX3_lastRun 30 = .ok (.iload_n 1, 1) := by decide +kernel
theorem dX3_lastRun_31 : decode cX3_lastRun 31 = .ok (.iaload, 1) := by decide +kernel
theorem dX3_lastRun_32 : decode cX3_lastRun 32 = .ok (.goto 6, 3) := by decide +kernel
theorem dX3_lastRun_35 : decode cX3_lastRun 35 = .ok (.sipush (-10001), 3) := by decide +kernel
theorem dX3_lastRun_38 : decode cX3_lastRun 38 = .ok (.ireturn, 1) := by decide +kernel
theorem dX3_cellCount_0 : decode cX3_cellCount 0 = .ok (.aload_n 0, 1) := by decide +kernel
theorem dX3_cellCount_1 : decode cX3_cellCount 1 = .ok (.getfield 12, 3) := by decide +kernel
theorem dX3_cellCount_4 : decode cX3_cellCount 4 = .ok (.getfield 46, 3) := by decide +kernel
theorem dX3_cellCount_7 : decode cX3_cellCount 7 = .ok (.ireturn, 1) := by decide +kernel
theorem dX3_variable_0 : decode cX3_variable 0 = .ok (.aload_n 0, 1) := by decide +kernel
theorem dX3_variable_1 : decode cX3_variable 1 = .ok (.iload_n 1, 1) := by decide +kernel
theorem dX3_variable_2 : decode cX3_variable 2 = .ok (.invokevirtual 59, 3) := by decide +kernel
theorem dX3_variable_5 : decode cX3_variable 5 = .ok (.ifCond .eq 18, 3) := by decide +kernel
theorem dX3_variable_8 : decode cX3_variable 8 = .ok (.aload_n 0, 1) := by decide +kernel
theorem dX3_variable_9 : decode cX3_variable 9 = .ok (.getfield 12, 3) := by decide +kernel
theorem dX3_variable_12 : decode cX3_variable 12 = .ok (.getfield 63, 3) := by decide +kernel
theorem dX3_variable_15 : decode cX3_variable 15 = .ok (.iload_n 1, 1) := by decide +kernel
theorem dX3_variable_16 : decode cX3_variable 16 = .ok (.aaload, 1) := by decide +kernel
theorem dX3_variable_17 : decode cX3_variable 17 = .ok (.getfield 67, 3) := by decide +kernel
theorem dX3_variable_20 : decode cX3_variable 20 = .ok (.goto 10, 3) := by decide +kernel
theorem dX3_variable_23 : decode cX3_variable 23 = .ok (.aload_n 0, 1) := by decide +kernel
theorem dX3_variable_24 : decode cX3_variable 24 = .ok (.sipush (-10002), 3) := by decide +kernel
theorem dX3_variable_27 : decode cX3_variable 27 = .ok (.invokevirtual 42, 3) := by decide +kernel
theorem dX3_variable_30 : decode cX3_variable 30 = .ok (.ireturn, 1) := by decide +kernel
theorem dX3_status_0 : decode cX3_status 0 = .ok (.aload_n 0, 1) := by decide +kernel
theorem dX3_status_1 : decode cX3_status 1 = .ok (.iload_n 1, 1) := by decide +kernel
theorem dX3_status_2 : decode cX3_status 2 = .ok (.invokevirtual 59, 3) := by decide +kernel
theorem dX3_status_5 : decode cX3_status 5 = .ok (.ifCond .eq 11, 3) := by decide +kernel
theorem dX3_status_8 : decode cX3_status 8 = .ok (.aload_n 0, 1) := by decide +kernel
theorem dX3_status_9 : decode cX3_status 9 = .ok (.iload_n 1, 1) := by decide +kernel
theorem dX3_status_10 : decode cX3_status 10 = .ok (.invokevirtual 109, 3) := by decide +kernel
theorem dX3_status_13 : decode cX3_status 13 = .ok (.goto 10, 3) := by decide +kernel
theorem dX3_status_16 : decode cX3_status 16 = .ok (.aload_n 0, 1) := by decide +kernel
theorem dX3_status_17 : decode cX3_status 17 = .ok (.sipush (-10002), 3) := by decide +kernel
theorem dX3_status_20 : decode cX3_status 20 = .ok (.invokevirtual 42, 3) := by decide +kernel
theorem dX3_status_23 : decode cX3_status 23 = .ok (.ireturn, 1) := by decide +kernel
theorem dX3_value_0 : decode cX3_value 0 = .ok (.aload_n 0, 1) := by decide +kernel
theorem dX3_value_1 : decode cX3_value 1 = .ok (.iload_n 1, 1) := by decide +kernel
theorem dX3_value_2 : decode cX3_value 2 = .ok (.invokevirtual 59, 3) := by decide +kernel
theorem dX3_value_5 : decode cX3_value 5 = .ok (.ifCond .eq 11, 3) := by decide +kernel
theorem dX3_value_8 : decode cX3_value 8 = .ok (.aload_n 0, 1) := by decide +kernel
theorem dX3_value_9 : decode cX3_value 9 = .ok (.iload_n 1, 1) := by decide +kernel
theorem dX3_value_10 : decode cX3_value 10 = .ok (.invokevirtual 112, 3) := by decide +kernel
theorem dX3_value_13 : decode cX3_value 13 = .ok (.goto 10, 3) := by decide +kernel
theorem dX3_value_16 : decode cX3_value 16 = .ok (.aload_n 0, 1) := by decide +kernel
theorem dX3_value_17 : decode cX3_value 17 = .ok (.sipush (-10002), 3) := by decide +kernel
theorem dX3_value_20 : decode cX3_value 20 = .ok (.invokevirtual 42, 3) := by decide +kernel
theorem dX3_value_23 : decode cX3_value 23 = .ok (.ireturn, 1) := by decide +kernel
theorem dX3_valueOf_0 : decode cX3_valueOf 0 = .ok (.iload_n 1, 1) := by decide +kernel
theorem dX3_valueOf_1 : decode cX3_valueOf 1 = .ok (.invokestatic 115, 3) := by decide +kernel
theorem dX3_valueOf_4 : decode cX3_valueOf 4 = .ok (.ifCond .ne 11, 3) := by decide +kernel
theorem dX3_valueOf_7 : decode cX3_valueOf 7 = .ok (.aload_n 0, 1) := by decide +kernel
theorem dX3_valueOf_8 : decode cX3_valueOf 8 = .ok (.sipush (-10002), 3) := by decide +kernel
theorem dX3_valueOf_11 : decode cX3_valueOf 11 = .ok (.invokevirtual 42, 3) := by decide +kernel
theorem dX3_valueOf_14 : decode cX3_valueOf 14 = .ok (.ireturn, 1) := by decide +kernel
theorem dX3_valueOf_15 : decode cX3_valueOf 15 = .ok (.aload_n 0, 1) := by decide +kernel
theorem dX3_valueOf_16 : decode cX3_valueOf 16 = .ok (.getfield 31, 3) := by decide +kernel
theorem dX3_valueOf_19 : decode cX3_valueOf 19 = .ok (.getfield 118, 3) := by decide +kernel
theorem dX3_valueOf_22 : decode cX3_valueOf 22 = .ok (.iload_n 1, 1) := by decide +kernel
theorem dX3_valueOf_23 : decode cX3_valueOf 23 = .ok (.iaload, 1) := by decide +kernel
theorem dX3_valueOf_24 : decode cX3_valueOf 24 = .ok (.istore_n 2, 1) := by decide +kernel
theorem dX3_valueOf_25 : decode cX3_valueOf 25 = .ok (.iload_n 2, 1) := by decide +kernel
theorem dX3_valueOf_26 : decode cX3_valueOf 26 = .ok (.iconst (-1), 1) := by decide +kernel
theorem dX3_valueOf_27 : decode cX3_valueOf 27 = .ok (.if_icmp .ne 9, 3) := by decide +kernel
theorem dX3_valueOf_30 : decode cX3_valueOf 30 = .ok (.sipush (-10001), 3) := by decide +kernel
theorem dX3_valueOf_33 : decode cX3_valueOf 33 = .ok (.goto 8, 3) := by decide +kernel
theorem dX3_valueOf_36 : decode cX3_valueOf 36 = .ok (.aload_n 0, 1) := by decide +kernel
theorem dX3_valueOf_37 : decode cX3_valueOf 37 = .ok (.iload_n 2, 1) := by decide +kernel
theorem dX3_valueOf_38 : decode cX3_valueOf 38 = .ok (.invokevirtual 112, 3) := by decide +kernel
theorem dX3_valueOf_41 : decode cX3_valueOf 41 = .ok (.ireturn, 1) := by decide +kernel
theorem dX3_version_0 : decode cX3_version 0 = .ok (.aload_n 0, 1) := by decide +kernel
theorem dX3_version_1 : decode cX3_version 1 = .ok (.iload_n 1, 1) := by decide +kernel
theorem dX3_version_2 : decode cX3_version 2 = .ok (.invokevirtual 59, 3) := by decide +kernel
theorem dX3_version_5 : decode cX3_version 5 = .ok (.ifCond .eq 18, 3) := by decide +kernel
theorem dX3_version_8 : decode cX3_version 8 = .ok (.aload_n 0, 1) := by decide +kernel
theorem dX3_version_9 : decode cX3_version 9 = .ok (.getfield 12, 3) := by decide +kernel
theorem dX3_version_12 : decode cX3_version 12 = .ok (.getfield 63, 3) := by decide +kernel
theorem dX3_version_15 : decode cX3_version 15 = .ok (.iload_n 1, 1) := by decide +kernel
theorem dX3_version_16 : decode cX3_version 16 = .ok (.aaload, 1) := by decide +kernel
theorem dX3_version_17 : decode cX3_version 17 = .ok (.getfield 121, 3) := by decide +kernel
theorem dX3_version_20 : decode cX3_version 20 = .ok (.goto 10, 3) := by decide +kernel
theorem dX3_version_23 : decode cX3_version 23 = .ok (.aload_n 0, 1) := by decide +kernel
theorem dX3_version_24 : decode cX3_version 24 = .ok (.sipush (-10002), 3) := by decide +kernel
theorem dX3_version_27 : decode cX3_version 27 = .ok (.invokevirtual 42, 3) := by decide +kernel
theorem dX3_version_30 : decode cX3_version 30 = .ok (.ireturn, 1) := by decide +kernel
theorem dX3_runs_0 : decode cX3_runs 0 = .ok (.aload_n 0, 1) := by decide +kernel
theorem dX3_runs_1 : decode cX3_runs 1 = .ok (.iload_n 1, 1) := by decide +kernel
theorem dX3_runs_2 : decode cX3_runs 2 = .ok (.invokevirtual 59, 3) := by decide +kernel
theorem dX3_runs_5 : decode cX3_runs 5 = .ok (.ifCond .eq 18, 3) := by decide +kernel
theorem dX3_runs_8 : decode cX3_runs 8 = .ok (.aload_n 0, 1) := by decide +kernel
theorem dX3_runs_9 : decode cX3_runs 9 = .ok (.getfield 12, 3) := by decide +kernel
theorem dX3_runs_12 : decode cX3_runs 12 = .ok (.getfield 63, 3) := by decide +kernel
theorem dX3_runs_15 : decode cX3_runs 15 = .ok (.iload_n 1, 1) := by decide +kernel
theorem dX3_runs_16 : decode cX3_runs 16 = .ok (.aaload, 1) := by decide +kernel
theorem dX3_runs_17 : decode cX3_runs 17 = .ok (.getfield 124, 3) := by decide +kernel
theorem dX3_runs_20 : decode cX3_runs 20 = .ok (.goto 10, 3) := by decide +kernel
theorem dX3_runs_23 : decode cX3_runs 23 = .ok (.aload_n 0, 1) := by decide +kernel
end
section
theorem dX3_runs_24 : decode cX3_runs 24 = .ok (.sipush (-10002), 3) := by decide +kernel
theorem dX3_runs_27 : decode cX3_runs 27 = .ok (.invokevirtual 42, 3) := by decide +kernel
theorem dX3_runs_30 : decode cX3_runs 30 = .ok (.ireturn, 1) := by decide +kernel
theorem dX3_totalRuns_0 : decode cX3_totalRuns 0 = .ok (.aload_n 0, 1) := by decide +kernel
theorem dX3_totalRuns_1 : decode cX3_totalRuns 1 = .ok (.getfield 12, 3) := by decide +kernel
theorem dX3_totalRuns_4 : decode cX3_totalRuns 4 = .ok (.getfield 127, 3) := by decide +kernel
theorem dX3_totalRuns_7 : decode cX3_totalRuns 7 = .ok (.ireturn, 1) := by decide +kernel
theorem dX3_dependencies_0 : decode cX3_dependencies 0 = .ok (.aload_n 0, 1) := by decide +kernel
theorem dX3_dependencies_1 : decode cX3_dependencies 1 = .ok (.iload_n 1, 1) := by decide +kernel
theorem dX3_dependencies_2 : decode cX3_dependencies 2 = .ok (.invokevirtual 59, 3) := by decide +kernel
theorem dX3_dependencies_5 : decode cX3_dependencies 5 = .ok (.ifCond .eq 15, 3) := by decide +kernel
theorem dX3_dependencies_8 : decode cX3_dependencies 8 = .ok (.aload_n 0, 1) := by decide +kernel
theorem dX3_dependencies_9 : decode cX3_dependencies 9 = .ok (.getfield 31, 3) := by decide +kernel
theorem dX3_dependencies_12 : decode cX3_dependencies 12 = .ok (.getfield 130, 3) := by decide +kernel
theorem dX3_dependencies_15 : decode cX3_dependencies 15 = .ok (.iload_n 1, 1) := by decide +kernel
theorem dX3_dependencies_16 : decode cX3_dependencies 16 = .ok (.iaload, 1) := by decide +kernel
theorem dX3_dependencies_17 : decode cX3_dependencies 17 = .ok (.goto 10, 3) := by decide +kernel
theorem dX3_dependencies_20 : decode cX3_dependencies 20 = .ok (.aload_n 0, 1) := by decide +kernel
theorem dX3_dependencies_21 : decode cX3_dependencies 21 = .ok (.sipush (-10002), 3) := by decide +kernel
theorem dX3_dependencies_24 : decode cX3_dependencies 24 = .ok (.invokevirtual 42, 3) := by decide +kernel
theorem dX3_dependencies_27 : decode cX3_dependencies 27 = .ok (.ireturn, 1) := by decide +kernel
theorem dX3_dependents_0 : decode cX3_dependents 0 = .ok (.aload_n 0, 1) := by decide +kernel
theorem dX3_dependents_1 : decode cX3_dependents 1 = .ok (.iload_n 1, 1) := by decide +kernel
theorem dX3_dependents_2 : decode cX3_dependents 2 = .ok (.invokevirtual 59, 3) := by decide +kernel
theorem dX3_dependents_5 : decode cX3_dependents 5 = .ok (.ifCond .eq 11, 3) := by decide +kernel
theorem dX3_dependents_8 : decode cX3_dependents 8 = .ok (.aload_n 0, 1) := by decide +kernel
theorem dX3_dependents_9 : decode cX3_dependents 9 = .ok (.iload_n 1, 1) := by decide +kernel
theorem dX3_dependents_10 : decode cX3_dependents 10 = .ok (.invokevirtual 133, 3) := by decide +kernel
theorem dX3_dependents_13 : decode cX3_dependents 13 = .ok (.goto 10, 3) := by decide +kernel
theorem dX3_dependents_16 : decode cX3_dependents 16 = .ok (.aload_n 0, 1) := by decide +kernel
theorem dX3_dependents_17 : decode cX3_dependents 17 = .ok (.sipush (-10002), 3) := by decide +kernel
theorem dX3_dependents_20 : decode cX3_dependents 20 = .ok (.invokevirtual 42, 3) := by decide +kernel
theorem dX3_dependents_23 : decode cX3_dependents 23 = .ok (.ireturn, 1) := by decide +kernel
theorem dX3_definers_0 : decode cX3_definers 0 = .ok (.iload_n 1, 1) := by decide +kernel
theorem dX3_definers_1 : decode cX3_definers 1 = .ok (.invokestatic 115, 3) := by decide +kernel
theorem dX3_definers_4 : decode cX3_definers 4 = .ok (.ifCond .eq 15, 3) := by decide +kernel
theorem dX3_definers_7 : decode cX3_definers 7 = .ok (.aload_n 0, 1) := by decide +kernel
theorem dX3_definers_8 : decode cX3_definers 8 = .ok (.getfield 31, 3) := by decide +kernel
theorem dX3_definers_11 : decode cX3_definers 11 = .ok (.getfield 136, 3) := by decide +kernel
theorem dX3_definers_14 : decode cX3_definers 14 = .ok (.iload_n 1, 1) := by decide +kernel
theorem dX3_definers_15 : decode cX3_definers 15 = .ok (.iaload, 1) := by decide +kernel
theorem dX3_definers_16 : decode cX3_definers 16 = .ok (.goto 10, 3) := by decide +kernel
theorem dX3_definers_19 : decode cX3_definers 19 = .ok (.aload_n 0, 1) := by decide +kernel
theorem dX3_definers_20 : decode cX3_definers 20 = .ok (.sipush (-10002), 3) := by decide +kernel
theorem dX3_definers_23 : decode cX3_definers 23 = .ok (.invokevirtual 42, 3) := by decide +kernel
theorem dX3_definers_26 : decode cX3_definers 26 = .ok (.ireturn, 1) := by decide +kernel
theorem dX3_runnableCount_0 : decode cX3_runnableCount 0 = .ok (.aload_n 0, 1) := by decide +kernel
theorem dX3_runnableCount_1 : decode cX3_runnableCount 1 = .ok (.getfield 31, 3) := by decide +kernel
theorem dX3_runnableCount_4 : decode cX3_runnableCount 4 = .ok (.getfield 139, 3) := by decide +kernel
theorem dX3_runnableCount_7 : decode cX3_runnableCount 7 = .ok (.ireturn, 1) := by decide +kernel
theorem dX3_runOrder_0 : decode cX3_runOrder 0 = .ok (.iload_n 1, 1) := by decide +kernel
theorem dX3_runOrder_1 : decode cX3_runOrder 1 = .ok (.ifCond .ge 11, 3) := by decide +kernel
theorem dX3_runOrder_4 : decode cX3_runOrder 4 = .ok (.aload_n 0, 1) := by decide +kernel
theorem dX3_runOrder_5 : decode cX3_runOrder 5 = .ok (.sipush (-10002), 3) := by decide +kernel
theorem dX3_runOrder_8 : decode cX3_runOrder 8 = .ok (.invokevirtual 42, 3) := by decide +kernel
theorem dX3_runOrder_11 : decode cX3_runOrder 11 = .ok (.ireturn, 1) := by decide +kernel
theorem dX3_runOrder_12 : decode cX3_runOrder 12 = .ok (.iload_n 1, 1) := by decide +kernel
theorem dX3_runOrder_13 : decode cX3_runOrder 13 = .ok (.aload_n 0, 1) := by decide +kernel
theorem dX3_runOrder_14 : decode cX3_runOrder 14 = .ok (.getfield 31, 3) := by decide +kernel
theorem dX3_runOrder_17 : decode cX3_runOrder 17 = .ok (.getfield 139, 3) := by decide +kernel
theorem dX3_runOrder_20 : decode cX3_runOrder 20 = .ok (.if_icmp .ge 15, 3) := by decide +kernel
theorem dX3_runOrder_23 : decode cX3_runOrder 23 = .ok (.aload_n 0, 1) := by decide +kernel
theorem dX3_runOrder_24 : decode cX3_runOrder 24 = .ok (.getfield 31, 3) := by decide +kernel
theorem dX3_runOrder_27 : decode cX3_runOrder 27 = .ok (.getfield 142, 3) := by decide +kernel
theorem dX3_runOrder_30 : decode cX3_runOrder 30 = .ok (.iload_n 1, 1) := by decide +kernel
theorem dX3_runOrder_31 : decode cX3_runOrder 31 = .ok (.iaload, 1) := by decide +kernel
theorem dX3_runOrder_32 : decode cX3_runOrder 32 = .ok (.goto 6, 3) := by decide +kernel
theorem dX3_runOrder_35 : decode cX3_runOrder 35 = .ok (.sipush (-10001), 3) := by decide +kernel
theorem dX3_runOrder_38 : decode cX3_runOrder 38 = .ok (.ireturn, 1) := by decide +kernel
theorem dX3_staleCount_0 : decode cX3_staleCount 0 = .ok (.aload_n 0, 1) := by decide +kernel
theorem dX3_staleCount_1 : decode cX3_staleCount 1 = .ok (.getfield 31, 3) := by decide +kernel
theorem dX3_staleCount_4 : decode cX3_staleCount 4 = .ok (.getfield 139, 3) := by decide +kernel
theorem dX3_staleCount_7 : decode cX3_staleCount 7 = .ok (.aload_n 0, 1) := by decide +kernel
theorem dX3_staleCount_8 : decode cX3_staleCount 8 = .ok (.getfield 35, 3) := by decide +kernel
theorem dX3_staleCount_11 : decode cX3_staleCount 11 = .ok (.invokestatic 145, 3) := by decide +kernel
theorem dX3_staleCount_14 : decode cX3_staleCount 14 = .ok (.isub, 1) := by decide +kernel
theorem dX3_staleCount_15 : decode cX3_staleCount 15 = .ok (.ireturn, 1) := by decide +kernel
theorem dX3_undo_0 : decode cX3_undo 0 = .ok (.aload_n 0, 1) := by decide +kernel
theorem dX3_undo_1 : decode cX3_undo 1 = .ok (.getfield 20, 3) := by decide +kernel
theorem dX3_undo_4 : decode cX3_undo 4 = .ok (.ifCond .gt 11, 3) := by decide +kernel
theorem dX3_undo_7 : decode cX3_undo 7 = .ok (.aload_n 0, 1) := by decide +kernel
theorem dX3_undo_8 : decode cX3_undo 8 = .ok (.sipush (-10003), 3) := by decide +kernel
theorem dX3_undo_11 : decode cX3_undo 11 = .ok (.invokevirtual 42, 3) := by decide +kernel
theorem dX3_undo_14 : decode cX3_undo 14 = .ok (.ireturn, 1) := by decide +kernel
theorem dX3_undo_15 : decode cX3_undo 15 = .ok (.aload_n 0, 1) := by decide +kernel
theorem dX3_undo_16 : decode cX3_undo 16 = .ok (.dup, 1) := by decide +kernel
theorem dX3_undo_17 : decode cX3_undo 17 = .ok (.getfield 20, 3) := by decide +kernel
theorem dX3_undo_20 : decode cX3_undo 20 = .ok (.iconst 1, 1) := by decide +kernel
theorem dX3_undo_21 : decode cX3_undo 21 = .ok (.isub, 1) := by decide +kernel
theorem dX3_undo_22 : decode cX3_undo 22 = .ok (.putfield 20, 3) := by decide +kernel
theorem dX3_undo_25 : decode cX3_undo 25 = .ok (.aload_n 0, 1) := by decide +kernel
theorem dX3_undo_26 : decode cX3_undo 26 = .ok (.getfield 12, 3) := by decide +kernel
theorem dX3_undo_29 : decode cX3_undo 29 = .ok (.aload_n 0, 1) := by decide +kernel
theorem dX3_undo_30 : decode cX3_undo 30 = .ok (.getfield 16, 3) := by decide +kernel
theorem dX3_undo_33 : decode cX3_undo 33 = .ok (.aload_n 0, 1) := by decide +kernel
theorem dX3_undo_34 : decode cX3_undo 34 = .ok (.getfield 20, 3) := by decide +kernel
theorem dX3_undo_37 : decode cX3_undo 37 = .ok (.aaload, 1) := by decide +kernel
theorem dX3_undo_38 : decode cX3_undo 38 = .ok (.invokevirtual 150, 3) := by decide +kernel
theorem dX3_undo_41 : decode cX3_undo 41 = .ok (.aload_n 0, 1) := by decide +kernel
theorem dX3_undo_42 : decode cX3_undo 42 = .ok (.getfield 31, 3) := by decide +kernel
theorem dX3_undo_45 : decode cX3_undo 45 = .ok (.aload_n 0, 1) := by decide +kernel
theorem dX3_undo_46 : decode cX3_undo 46 = .ok (.getfield 12, 3) := by decide +kernel
theorem dX3_undo_49 : decode cX3_undo 49 = .ok (.invokevirtual 154, 3) := by decide +kernel
theorem dX3_undo_52 : decode cX3_undo 52 = .ok (.aload_n 0, 1) := by decide +kernel
theorem dX3_undo_53 : decode cX3_undo 53 = .ok (.iconst 0, 1) := by decide +kernel
theorem dX3_undo_54 : decode cX3_undo 54 = .ok (.invokevirtual 94, 3) := by decide +kernel
theorem dX3_undo_57 : decode cX3_undo 57 = .ok (.aload_n 0, 1) := by decide +kernel
theorem dX3_undo_58 : decode cX3_undo 58 = .ok (.getfield 20, 3) := by decide +kernel
theorem dX3_undo_61 : decode cX3_undo 61 = .ok (.ireturn, 1) := by decide +kernel
theorem dX3_errorCount_0 : decode cX3_errorCount 0 = .ok (.iload_n 1, 1) := by decide +kernel
theorem dX3_errorCount_1 : decode cX3_errorCount 1 = .ok (.ifCond .lt 17, 3) := by decide +kernel
theorem dX3_errorCount_4 : decode cX3_errorCount 4 = .ok (.iload_n 1, 1) := by decide +kernel
theorem dX3_errorCount_5 : decode cX3_errorCount 5 = .ok (.iconst 3, 1) := by decide +kernel
theorem dX3_errorCount_6 : decode cX3_errorCount 6 = .ok (.if_icmp .ge 12, 3) := by decide +kernel
theorem dX3_errorCount_9 : decode cX3_errorCount 9 = .ok (.aload_n 0, 1) := by decide +kernel
theorem dX3_errorCount_10 : decode cX3_errorCount 10 = .ok (.getfield 24, 3) := by decide +kernel
theorem dX3_errorCount_13 : decode cX3_errorCount 13 = .ok (.iload_n 1, 1) := by decide +kernel
theorem dX3_errorCount_14 : decode cX3_errorCount 14 = .ok (.iaload, 1) := by decide +kernel
theorem dX3_errorCount_15 : decode cX3_errorCount 15 = .ok (.goto 10, 3) := by decide +kernel
theorem dX3_errorCount_18 : decode cX3_errorCount 18 = .ok (.aload_n 0, 1) := by decide +kernel
theorem dX3_errorCount_19 : decode cX3_errorCount 19 = .ok (.sipush (-10002), 3) := by decide +kernel
theorem dX3_errorCount_22 : decode cX3_errorCount 22 = .ok (.invokevirtual 42, 3) := by decide +kernel
theorem dX3_errorCount_25 : decode cX3_errorCount 25 = .ok (.ireturn, 1) := by decide +kernel
theorem dX3_digest_0 : decode cX3_digest 0 = .ok (.ldc2_w 157, 3) := by decide +kernel
theorem dX3_digest_3 : decode cX3_digest 3 = .ok (.lstore_n 1, 1) := by decide +kernel
theorem dX3_digest_4 : decode cX3_digest 4 = .ok (.iconst 0, 1) := by decide +kernel
theorem dX3_digest_5 : decode cX3_digest 5 = .ok (.istore_n 3, 1) := by decide +kernel
theorem dX3_digest_6 : decode cX3_digest 6 = .ok (.iload_n 3, 1) := by decide +kernel
theorem dX3_digest_7 : decode cX3_digest 7 = .ok (.iconst 3, 1) := by decide +kernel
theorem dX3_digest_8 : decode cX3_digest 8 = .ok (.if_icmp .ge 21, 3) := by decide +kernel
theorem dX3_digest_11 : decode cX3_digest 11 = .ok (.lload_n 1, 1) := by decide +kernel
theorem dX3_digest_12 : decode cX3_digest 12 = .ok (.aload_n 0, 1) := by decide +kernel
theorem dX3_digest_13 : decode cX3_digest 13 = .ok (.getfield 24, 3) := by decide +kernel
theorem dX3_digest_16 : decode cX3_digest 16 = .ok (.iload_n 3, 1) := by decide +kernel
theorem dX3_digest_17 : decode cX3_digest 17 = .ok (.iaload, 1) := by decide +kernel
theorem dX3_digest_18 : decode cX3_digest 18 = .ok (.i2l, 1) := by decide +kernel
theorem dX3_digest_19 : decode cX3_digest 19 = .ok (.invokestatic 159, 3) := by decide +kernel
theorem dX3_digest_22 : decode cX3_digest 22 = .ok (.lstore_n 1, 1) := by decide +kernel
theorem dX3_digest_23 : decode cX3_digest 23 = .ok (.iinc 3 1, 3) := by decide +kernel
theorem dX3_digest_26 : decode cX3_digest 26 = .ok (.goto (-20), 3) := by decide +kernel
theorem dX3_digest_29 : decode cX3_digest 29 = .ok (.lload_n 1, 1) := by decide +kernel
theorem dX3_digest_30 : decode cX3_digest 30 = .ok (.aload_n 0, 1) := by decide +kernel
theorem dX3_digest_31 : decode cX3_digest 31 = .ok (.getfield 20, 3) := by decide +kernel
theorem dX3_digest_34 : decode cX3_digest 34 = .ok (.i2l, 1) := by decide +kernel
theorem dX3_digest_35 : decode cX3_digest 35 = .ok (.invokestatic 159, 3) := by decide +kernel
theorem dX3_digest_38 : decode cX3_digest 38 = .ok (.lstore_n 1, 1) := by decide +kernel
theorem dX3_digest_39 : decode cX3_digest 39 = .ok (.lload_n 1, 1) := by decide +kernel
theorem dX3_digest_40 : decode cX3_digest 40 = .ok (.aload_n 0, 1) := by decide +kernel
theorem dX3_digest_41 : decode cX3_digest 41 = .ok (.getfield 12, 3) := by decide +kernel
theorem dX3_digest_44 : decode cX3_digest 44 = .ok (.getfield 88, 3) := by decide +kernel
theorem dX3_digest_47 : decode cX3_digest 47 = .ok (.i2l, 1) := by decide +kernel
theorem dX3_digest_48 : decode cX3_digest 48 = .ok (.invokestatic 159, 3) := by decide +kernel
theorem dX3_digest_51 : decode cX3_digest 51 = .ok (.lstore_n 1, 1) := by decide +kernel
theorem dX3_digest_52 : decode cX3_digest 52 = .ok (.lload_n 1, 1) := by decide +kernel
theorem dX3_digest_53 : decode cX3_digest 53 = .ok (.aload_n 0, 1) := by decide +kernel
theorem dX3_digest_54 : decode cX3_digest 54 = .ok (.getfield 12, 3) := by decide +kernel
theorem dX3_digest_57 : decode cX3_digest 57 = .ok (.getfield 127, 3) := by decide +kernel
theorem dX3_digest_60 : decode cX3_digest 60 = .ok (.i2l, 1) := by decide +kernel
theorem dX3_digest_61 : decode cX3_digest 61 = .ok (.invokestatic 159, 3) := by decide +kernel
theorem dX3_digest_64 : decode cX3_digest 64 = .ok (.lstore_n 1, 1) := by decide +kernel
theorem dX3_digest_65 : decode cX3_digest 65 = .ok (.lload_n 1, 1) := by decide +kernel
theorem dX3_digest_66 : decode cX3_digest 66 = .ok (.aload_n 0, 1) := by decide +kernel
theorem dX3_digest_67 : decode cX3_digest 67 = .ok (.getfield 12, 3) := by decide +kernel
theorem dX3_digest_70 : decode cX3_digest 70 = .ok (.getfield 97, 3) := by decide +kernel
theorem dX3_digest_73 : decode cX3_digest 73 = .ok (.i2l, 1) := by decide +kernel
theorem dX3_digest_74 : decode cX3_digest 74 = .ok (.invokestatic 159, 3) := by decide +kernel
theorem dX3_digest_77 : decode cX3_digest 77 = .ok (.lstore_n 1, 1) := by decide +kernel
theorem dX3_digest_78 : decode cX3_digest 78 = .ok (.iconst 0, 1) := by decide +kernel
theorem dX3_digest_79 : decode cX3_digest 79 = .ok (.istore_n 3, 1) := by decide +kernel
theorem dX3_digest_80 : decode cX3_digest 80 = .ok (.iload_n 3, 1) := by decide +kernel
theorem dX3_digest_81 : decode cX3_digest 81 = .ok (.aload_n 0, 1) := by decide +kernel
theorem dX3_digest_82 : decode cX3_digest 82 = .ok (.getfield 12, 3) := by decide +kernel
theorem dX3_digest_85 : decode cX3_digest 85 = .ok (.getfield 97, 3) := by decide +kernel
theorem dX3_digest_88 : decode cX3_digest 88 = .ok (.if_icmp .ge 24, 3) := by decide +kernel
theorem dX3_digest_91 : decode cX3_digest 91 = .ok (.lload_n 1, 1) := by decide +kernel
theorem dX3_digest_92 : decode cX3_digest 92 = .ok (.aload_n 0, 1) := by decide +kernel
theorem dX3_digest_93 : decode cX3_digest 93 = .ok (.getfield 12, 3) := by decide +kernel
theorem dX3_digest_96 : decode cX3_digest 96 = .ok (.getfield 106, 3) := by decide +kernel
theorem dX3_digest_99 : decode cX3_digest 99 = .ok (.iload_n 3, 1) := by decide +kernel
theorem dX3_digest_100 : decode cX3_digest 100 = .ok (.iaload, 1) := by decide +kernel
theorem dX3_digest_101 : decode cX3_digest 101 = .ok (.i2l, 1) := by decide +kernel
theorem dX3_digest_102 : decode cX3_digest 102 = .ok (.invokestatic 159, 3) := by decide +kernel
theorem dX3_digest_105 : decode cX3_digest 105 = .ok (.lstore_n 1, 1) := by decide +kernel
theorem dX3_digest_106 : decode cX3_digest 106 = .ok (.iinc 3 1, 3) := by decide +kernel
theorem dX3_digest_109 : decode cX3_digest 109 = .ok (.goto (-29), 3) := by decide +kernel
theorem dX3_digest_112 : decode cX3_digest 112 = .ok (.lload_n 1, 1) := by decide +kernel
theorem dX3_digest_113 : decode cX3_digest 113 = .ok (.aload_n 0, 1) := by decide +kernel
theorem dX3_digest_114 : decode cX3_digest 114 = .ok (.getfield 12, 3) := by decide +kernel
theorem dX3_digest_117 : decode cX3_digest 117 = .ok (.getfield 46, 3) := by decide +kernel
theorem dX3_digest_120 : decode cX3_digest 120 = .ok (.i2l, 1) := by decide +kernel
theorem dX3_digest_121 : decode cX3_digest 121 = .ok (.invokestatic 159, 3) := by decide +kernel
theorem dX3_digest_124 : decode cX3_digest 124 = .ok (.lstore_n 1, 1) := by decide +kernel
theorem dX3_digest_125 : decode cX3_digest 125 = .ok (.iconst 0, 1) := by decide +kernel
theorem dX3_digest_126 : decode cX3_digest 126 = .ok (.istore_n 3, 1) := by decide +kernel
theorem dX3_digest_127 : decode cX3_digest 127 = .ok (.iload_n 3, 1) := by decide +kernel
theorem dX3_digest_128 : decode cX3_digest 128 = .ok (.aload_n 0, 1) := by decide +kernel
theorem dX3_digest_129 : decode cX3_digest 129 = .ok (.getfield 12, 3) := by decide +kernel
theorem dX3_digest_132 : decode cX3_digest 132 = .ok (.getfield 46, 3) := by decide +kernel
theorem dX3_digest_135 : decode cX3_digest 135 = .ok (.if_icmp .ge 16, 3) := by decide +kernel
theorem dX3_digest_138 : decode cX3_digest 138 = .ok (.aload_n 0, 1) := by decide +kernel
theorem dX3_digest_139 : decode cX3_digest 139 = .ok (.lload_n 1, 1) := by decide +kernel
theorem dX3_digest_140 : decode cX3_digest 140 = .ok (.iload_n 3, 1) := by decide +kernel
theorem dX3_digest_141 : decode cX3_digest 141 = .ok (.invokevirtual 163, 3) := by decide +kernel
theorem dX3_digest_144 : decode cX3_digest 144 = .ok (.lstore_n 1, 1) := by decide +kernel
theorem dX3_digest_145 : decode cX3_digest 145 = .ok (.iinc 3 1, 3) := by decide +kernel
theorem dX3_digest_148 : decode cX3_digest 148 = .ok (.goto (-21), 3) := by decide +kernel
theorem dX3_digest_151 : decode cX3_digest 151 = .ok (.lload_n 1, 1) := by decide +kernel
theorem dX3_digest_152 : decode cX3_digest 152 = .ok (.aload_n 0, 1) := by decide +kernel
theorem dX3_digest_153 : decode cX3_digest 153 = .ok (.getfield 31, 3) := by decide +kernel
theorem dX3_digest_156 : decode cX3_digest 156 = .ok (.getfield 139, 3) := by decide +kernel
theorem dX3_digest_159 : decode cX3_digest 159 = .ok (.i2l, 1) := by decide +kernel
theorem dX3_digest_160 : decode cX3_digest 160 = .ok (.invokestatic 159, 3) := by decide +kernel
theorem dX3_digest_163 : decode cX3_digest 163 = .ok (.lstore_n 1, 1) := by decide +kernel
theorem dX3_digest_164 : decode cX3_digest 164 = .ok (.iconst 0, 1) := by decide +kernel
theorem dX3_digest_165 : decode cX3_digest 165 = .ok (.istore_n 3, 1) := by decide +kernel
theorem dX3_digest_166 : decode cX3_digest 166 = .ok (.iload_n 3, 1) := by decide +kernel
theorem dX3_digest_167 : decode cX3_digest 167 = .ok (.aload_n 0, 1) := by decide +kernel
theorem dX3_digest_168 : decode cX3_digest 168 = .ok (.getfield 31, 3) := by decide +kernel
theorem dX3_digest_171 : decode cX3_digest 171 = .ok (.getfield 139, 3) := by decide +kernel
theorem dX3_digest_174 : decode cX3_digest 174 = .ok (.if_icmp .ge 24, 3) := by decide +kernel
theorem dX3_digest_177 : decode cX3_digest 177 = .ok (.lload_n 1, 1) := by decide +kernel
theorem dX3_digest_178 : decode cX3_digest 178 = .ok (.aload_n 0, 1) := by decide +kernel
theorem dX3_digest_179 : decode cX3_digest 179 = .ok (.getfield 31, 3) := by decide +kernel
theorem dX3_digest_182 : decode cX3_digest 182 = .ok (.getfield 142, 3) := by decide +kernel
theorem dX3_digest_185 : decode cX3_digest 185 = .ok (.iload_n 3, 1) := by decide +kernel
theorem dX3_digest_186 : decode cX3_digest 186 = .ok (.iaload, 1) := by decide +kernel
theorem dX3_digest_187 : decode cX3_digest 187 = .ok (.i2l, 1) := by decide +kernel
theorem dX3_digest_188 : decode cX3_digest 188 = .ok (.invokestatic 159, 3) := by decide +kernel
theorem dX3_digest_191 : decode cX3_digest 191 = .ok (.lstore_n 1, 1) := by decide +kernel
theorem dX3_digest_192 : decode cX3_digest 192 = .ok (.iinc 3 1, 3) := by decide +kernel
theorem dX3_digest_195 : decode cX3_digest 195 = .ok (.goto (-29), 3) := by decide +kernel
theorem dX3_digest_198 : decode cX3_digest 198 = .ok (.lload_n 1, 1) := by decide +kernel
theorem dX3_digest_199 : decode cX3_digest 199 = .ok (.lreturn, 1) := by decide +kernel
theorem dX3_mixCell_0 : decode cX3_mixCell 0 = .ok (.aload_n 0, 1) := by decide +kernel
theorem dX3_mixCell_1 : decode cX3_mixCell 1 = .ok (.getfield 12, 3) := by decide +kernel
theorem dX3_mixCell_4 : decode cX3_mixCell 4 = .ok (.getfield 63, 3) := by decide +kernel
theorem dX3_mixCell_7 : decode cX3_mixCell 7 = .ok (.iload_n 3, 1) := by decide +kernel
theorem dX3_mixCell_8 : decode cX3_mixCell 8 = .ok (.aaload, 1) := by decide +kernel
theorem dX3_mixCell_9 : decode cX3_mixCell 9 = .ok (.astore 4, 2) := by decide +kernel
theorem dX3_mixCell_11 : decode cX3_mixCell 11 = .ok (.lload_n 1, 1) := by decide +kernel
theorem dX3_mixCell_12 : decode cX3_mixCell 12 = .ok (.aload 4, 2) := by decide +kernel
theorem dX3_mixCell_14 : decode cX3_mixCell 14 = .ok (.getfield 67, 3) := by decide +kernel
theorem dX3_mixCell_17 : decode cX3_mixCell 17 = .ok (.i2l, 1) := by decide +kernel
theorem dX3_mixCell_18 : decode cX3_mixCell 18 = .ok (.invokestatic 159, 3) := by decide +kernel
theorem dX3_mixCell_21 : decode cX3_mixCell 21 = .ok (.lstore 5, 2) := by decide +kernel
theorem dX3_mixCell_23 : decode cX3_mixCell 23 = .ok (.lload 5, 2) := by decide +kernel
theorem dX3_mixCell_25 : decode cX3_mixCell 25 = .ok (.aload 4, 2) := by decide +kernel
theorem dX3_mixCell_27 : decode cX3_mixCell 27 = .ok (.getfield 167, 3) := by decide +kernel
theorem dX3_mixCell_30 : decode cX3_mixCell 30 = .ok (.i2l, 1) := by decide +kernel
theorem dX3_mixCell_31 : decode cX3_mixCell 31 = .ok (.invokestatic 159, 3) := by decide +kernel
theorem dX3_mixCell_34 : decode cX3_mixCell 34 = .ok (.lstore 5, 2) := by decide +kernel
theorem dX3_mixCell_36 : decode cX3_mixCell 36 = .ok (.lload 5, 2) := by decide +kernel
theorem dX3_mixCell_38 : decode cX3_mixCell 38 = .ok (.aload 4, 2) := by decide +kernel
theorem dX3_mixCell_40 : decode cX3_mixCell 40 = .ok (.getfield 170, 3) := by decide +kernel
theorem dX3_mixCell_43 : decode cX3_mixCell 43 = .ok (.i2l, 1) := by decide +kernel
theorem dX3_mixCell_44 : decode cX3_mixCell 44 = .ok (.invokestatic 159, 3) := by decide +kernel
theorem dX3_mixCell_47 : decode cX3_mixCell 47 = .ok (.lstore 5, 2) := by decide +kernel
theorem dX3_mixCell_49 : decode cX3_mixCell 49 = .ok (.lload 5, 2) := by decide +kernel
theorem dX3_mixCell_51 : decode cX3_mixCell 51 = .ok (.aload 4, 2) := by decide +kernel
theorem dX3_mixCell_53 : decode cX3_mixCell 53 = .ok (.getfield 173, 3) := by decide +kernel
theorem dX3_mixCell_56 : decode cX3_mixCell 56 = .ok (.i2l, 1) := by decide +kernel
theorem dX3_mixCell_57 : decode cX3_mixCell 57 = .ok (.invokestatic 159, 3) := by decide +kernel
theorem dX3_mixCell_60 : decode cX3_mixCell 60 = .ok (.lstore 5, 2) := by decide +kernel
theorem dX3_mixCell_62 : decode cX3_mixCell 62 = .ok (.lload 5, 2) := by decide +kernel
theorem dX3_mixCell_64 : decode cX3_mixCell 64 = .ok (.aload_n 0, 1) := by decide +kernel
theorem dX3_mixCell_65 : decode cX3_mixCell 65 = .ok (.iload_n 3, 1) := by decide +kernel
theorem dX3_mixCell_66 : decode cX3_mixCell 66 = .ok (.invokevirtual 109, 3) := by decide +kernel
theorem dX3_mixCell_69 : decode cX3_mixCell 69 = .ok (.i2l, 1) := by decide +kernel
theorem dX3_mixCell_70 : decode cX3_mixCell 70 = .ok (.invokestatic 159, 3) := by decide +kernel
theorem dX3_mixCell_73 : decode cX3_mixCell 73 = .ok (.lstore 5, 2) := by decide +kernel
theorem dX3_mixCell_75 : decode cX3_mixCell 75 = .ok (.lload 5, 2) := by decide +kernel
theorem dX3_mixCell_77 : decode cX3_mixCell 77 = .ok (.aload_n 0, 1) := by decide +kernel
theorem dX3_mixCell_78 : decode cX3_mixCell 78 = .ok (.iload_n 3, 1) := by decide +kernel
theorem dX3_mixCell_79 : decode cX3_mixCell 79 = .ok (.invokevirtual 112, 3) := by decide +kernel
theorem dX3_mixCell_82 : decode cX3_mixCell 82 = .ok (.i2l, 1) := by decide +kernel
theorem dX3_mixCell_83 : decode cX3_mixCell 83 = .ok (.invokestatic 159, 3) := by decide +kernel
theorem dX3_mixCell_86 : decode cX3_mixCell 86 = .ok (.lstore 5, 2) := by decide +kernel
theorem dX3_mixCell_88 : decode cX3_mixCell 88 = .ok (.lload 5, 2) := by decide +kernel
theorem dX3_mixCell_90 : decode cX3_mixCell 90 = .ok (.aload 4, 2) := by decide +kernel
theorem dX3_mixCell_92 : decode cX3_mixCell 92 = .ok (.getfield 121, 3) := by decide +kernel
theorem dX3_mixCell_95 : decode cX3_mixCell 95 = .ok (.i2l, 1) := by decide +kernel
theorem dX3_mixCell_96 : decode cX3_mixCell 96 = .ok (.invokestatic 159, 3) := by decide +kernel
theorem dX3_mixCell_99 : decode cX3_mixCell 99 = .ok (.lstore 5, 2) := by decide +kernel
theorem dX3_mixCell_101 : decode cX3_mixCell 101 = .ok (.lload 5, 2) := by decide +kernel
theorem dX3_mixCell_103 : decode cX3_mixCell 103 = .ok (.aload 4, 2) := by decide +kernel
theorem dX3_mixCell_105 : decode cX3_mixCell 105 = .ok (.getfield 124, 3) := by decide +kernel
theorem dX3_mixCell_108 : decode cX3_mixCell 108 = .ok (.i2l, 1) := by decide +kernel
theorem dX3_mixCell_109 : decode cX3_mixCell 109 = .ok (.invokestatic 159, 3) := by decide +kernel
theorem dX3_mixCell_112 : decode cX3_mixCell 112 = .ok (.lstore 5, 2) := by decide +kernel
theorem dX3_mixCell_114 : decode cX3_mixCell 114 = .ok (.lload 5, 2) := by decide +kernel
theorem dX3_mixCell_116 : decode cX3_mixCell 116 = .ok (.aload_n 0, 1) := by decide +kernel
theorem dX3_mixCell_117 : decode cX3_mixCell 117 = .ok (.getfield 31, 3) := by decide +kernel
theorem dX3_mixCell_120 : decode cX3_mixCell 120 = .ok (.getfield 130, 3) := by decide +kernel
theorem dX3_mixCell_123 : decode cX3_mixCell 123 = .ok (.iload_n 3, 1) := by decide +kernel
theorem dX3_mixCell_124 : decode cX3_mixCell 124 = .ok (.iaload, 1) := by decide +kernel
theorem dX3_mixCell_125 : decode cX3_mixCell 125 = .ok (.i2l, 1) := by decide +kernel
theorem dX3_mixCell_126 : decode cX3_mixCell 126 = .ok (.invokestatic 159, 3) := by decide +kernel
theorem dX3_mixCell_129 : decode cX3_mixCell 129 = .ok (.lstore 5, 2) := by decide +kernel
theorem dX3_mixCell_131 : decode cX3_mixCell 131 = .ok (.lload 5, 2) := by decide +kernel
theorem dX3_mixCell_133 : decode cX3_mixCell 133 = .ok (.aload_n 0, 1) := by decide +kernel
theorem dX3_mixCell_134 : decode cX3_mixCell 134 = .ok (.iload_n 3, 1) := by decide +kernel
theorem dX3_mixCell_135 : decode cX3_mixCell 135 = .ok (.invokevirtual 133, 3) := by decide +kernel
theorem dX3_mixCell_138 : decode cX3_mixCell 138 = .ok (.i2l, 1) := by decide +kernel
theorem dX3_mixCell_139 : decode cX3_mixCell 139 = .ok (.invokestatic 159, 3) := by decide +kernel
theorem dX3_mixCell_142 : decode cX3_mixCell 142 = .ok (.lreturn, 1) := by decide +kernel
theorem dX3_mix_0 : decode cX3_mix 0 = .ok (.ldc2_w 176, 3) := by decide +kernel
theorem dX3_mix_3 : decode cX3_mix 3 = .ok (.lload_n 0, 1) := by decide +kernel
theorem dX3_mix_4 : decode cX3_mix 4 = .ok (.lmul, 1) := by decide +kernel
theorem dX3_mix_5 : decode cX3_mix 5 = .ok (.lload_n 2, 1) := by decide +kernel
theorem dX3_mix_6 : decode cX3_mix 6 = .ok (.ladd, 1) := by decide +kernel
theorem dX3_mix_7 : decode cX3_mix 7 = .ok (.lreturn, 1) := by decide +kernel
theorem dX3_isCell_0 : decode cX3_isCell 0 = .ok (.iload_n 1, 1) := by decide +kernel
theorem dX3_isCell_1 : decode cX3_isCell 1 = .ok (.ifCond .lt 18, 3) := by decide +kernel
theorem dX3_isCell_4 : decode cX3_isCell 4 = .ok (.iload_n 1, 1) := by decide +kernel
theorem dX3_isCell_5 : decode cX3_isCell 5 = .ok (.aload_n 0, 1) := by decide +kernel
theorem dX3_isCell_6 : decode cX3_isCell 6 = .ok (.getfield 12, 3) := by decide +kernel
theorem dX3_isCell_9 : decode cX3_isCell 9 = .ok (.getfield 46, 3) := by decide +kernel
theorem dX3_isCell_12 : decode cX3_isCell 12 = .ok (.if_icmp .ge 7, 3) := by decide +kernel
theorem dX3_isCell_15 : decode cX3_isCell 15 = .ok (.iconst 1, 1) := by decide +kernel
theorem dX3_isCell_16 : decode cX3_isCell 16 = .ok (.goto 4, 3) := by decide +kernel
theorem dX3_isCell_19 : decode cX3_isCell 19 = .ok (.iconst 0, 1) := by decide +kernel
theorem dX3_isCell_20 : decode cX3_isCell 20 = .ok (.ireturn, 1) := by decide +kernel
theorem dX3_isVariable_0 : decode cX3_isVariable 0 = .ok (.iload_n 0, 1) := by decide +kernel
theorem dX3_isVariable_1 : decode cX3_isVariable 1 = .ok (.ifCond .lt 13, 3) := by decide +kernel
theorem dX3_isVariable_4 : decode cX3_isVariable 4 = .ok (.iload_n 0, 1) := by decide +kernel
theorem dX3_isVariable_5 : decode cX3_isVariable 5 = .ok (.bipush 10, 2) := by decide +kernel
theorem dX3_isVariable_7 : decode cX3_isVariable 7 = .ok (.if_icmp .ge 7, 3) := by decide +kernel
theorem dX3_isVariable_10 : decode cX3_isVariable 10 = .ok (.iconst 1, 1) := by decide +kernel
theorem dX3_isVariable_11 : decode cX3_isVariable 11 = .ok (.goto 4, 3) := by decide +kernel
theorem dX3_isVariable_14 : decode cX3_isVariable 14 = .ok (.iconst 0, 1) := by decide +kernel
theorem dX3_isVariable_15 : decode cX3_isVariable 15 = .ok (.ireturn, 1) := by decide +kernel
theorem dX3_isDefinition_0 : decode cX3_isDefinition 0 = .ok (.iload_n 0, 1) := by decide +kernel
theorem dX3_isDefinition_1 : decode cX3_isDefinition 1 = .ok (.invokestatic 115, 3) := by decide +kernel
theorem dX3_isDefinition_4 : decode cX3_isDefinition 4 = .ok (.ifCond .eq 31, 3) := by decide +kernel
theorem dX3_isDefinition_7 : decode cX3_isDefinition 7 = .ok (.iload_n 1, 1) := by decide +kernel
theorem dX3_isDefinition_8 : decode cX3_isDefinition 8 = .ok (.ifCond .lt 27, 3) := by decide +kernel
theorem dX3_isDefinition_11 : decode cX3_isDefinition 11 = .ok (.iload_n 1, 1) := by decide +kernel
theorem dX3_isDefinition_12 : decode cX3_isDefinition 12 = .ok (.bipush 6, 2) := by decide +kernel
theorem dX3_isDefinition_14 : decode cX3_isDefinition 14 = .ok (.if_icmp .ge 21, 3) := by decide +kernel
theorem dX3_isDefinition_17 : decode cX3_isDefinition 17 = .ok (.iload_n 2, 1) := by decide +kernel
theorem dX3_isDefinition_18 : decode cX3_isDefinition 18 = .ok (.invokestatic 178, 3) := by decide +kernel
theorem dX3_isDefinition_21 : decode cX3_isDefinition 21 = .ok (.ifCond .eq 14, 3) := by decide +kernel
theorem dX3_isDefinition_24 : decode cX3_isDefinition 24 = .ok (.iload_n 3, 1) := by decide +kernel
theorem dX3_isDefinition_25 : decode cX3_isDefinition 25 = .ok (.invokestatic 178, 3) := by decide +kernel
theorem dX3_isDefinition_28 : decode cX3_isDefinition 28 = .ok (.ifCond .eq 7, 3) := by decide +kernel
theorem dX3_isDefinition_31 : decode cX3_isDefinition 31 = .ok (.iconst 1, 1) := by decide +kernel
theorem dX3_isDefinition_32 : decode cX3_isDefinition 32 = .ok (.goto 4, 3) := by decide +kernel
theorem dX3_isDefinition_35 : decode cX3_isDefinition 35 = .ok (.iconst 0, 1) := by decide +kernel
theorem dX3_isDefinition_36 : decode cX3_isDefinition 36 = .ok (.ireturn, 1) := by decide +kernel
theorem dX3_isOperand_0 : decode cX3_isOperand 0 = .ok (.iload_n 0, 1) := by decide +kernel
theorem dX3_isOperand_1 : decode cX3_isOperand 1 = .ok (.ifCond .lt 13, 3) := by decide +kernel
theorem dX3_isOperand_4 : decode cX3_isOperand 4 = .ok (.iload_n 0, 1) := by decide +kernel
theorem dX3_isOperand_5 : decode cX3_isOperand 5 = .ok (.bipush 110, 2) := by decide +kernel
theorem dX3_isOperand_7 : decode cX3_isOperand 7 = .ok (.if_icmp .ge 7, 3) := by decide +kernel
theorem dX3_isOperand_10 : decode cX3_isOperand 10 = .ok (.iconst 1, 1) := by decide +kernel
theorem dX3_isOperand_11 : decode cX3_isOperand 11 = .ok (.goto 4, 3) := by decide +kernel
theorem dX3_isOperand_14 : decode cX3_isOperand 14 = .ok (.iconst 0, 1) := by decide +kernel
theorem dX3_isOperand_15 : decode cX3_isOperand 15 = .ok (.ireturn, 1) := by decide +kernel
theorem dX3_isVariableOperand_0 : decode cX3_isVariableOperand 0 = .ok (.iload_n 0, 1) := by decide +kernel
theorem dX3_isVariableOperand_1 : decode cX3_isVariableOperand 1 = .ok (.bipush 100, 2) := by decide +kernel
theorem dX3_isVariableOperand_3 : decode cX3_isVariableOperand 3 = .ok (.if_icmp .lt 13, 3) := by decide +kernel
theorem dX3_isVariableOperand_6 : decode cX3_isVariableOperand 6 = .ok (.iload_n 0, 1) := by decide +kernel
theorem dX3_isVariableOperand_7 : decode cX3_isVariableOperand 7 = .ok (.bipush 110, 2) := by decide +kernel
theorem dX3_isVariableOperand_9 : decode cX3_isVariableOperand 9 = .ok (.if_icmp .ge 7, 3) := by decide +kernel
theorem dX3_isVariableOperand_12 : decode cX3_isVariableOperand 12 = .ok (.iconst 1, 1) := by decide +kernel
theorem dX3_isVariableOperand_13 : decode cX3_isVariableOperand 13 = .ok (.goto 4, 3) := by decide +kernel
theorem dX3_isVariableOperand_16 : decode cX3_isVariableOperand 16 = .ok (.iconst 0, 1) := by decide +kernel
theorem dX3_isVariableOperand_17 : decode cX3_isVariableOperand 17 = .ok (.ireturn, 1) := by decide +kernel
theorem dX3_contains_0 : decode cX3_contains 0 = .ok (.iload_n 0, 1) := by decide +kernel
theorem dX3_contains_1 : decode cX3_contains 1 = .ok (.iconst 1, 1) := by decide +kernel
theorem dX3_contains_2 : decode cX3_contains 2 = .ok (.iload_n 1, 1) := by decide +kernel
theorem dX3_contains_3 : decode cX3_contains 3 = .ok (.ishl, 1) := by decide +kernel
theorem dX3_contains_4 : decode cX3_contains 4 = .ok (.iand, 1) := by decide +kernel
theorem dX3_contains_5 : decode cX3_contains 5 = .ok (.ifCond .eq 7, 3) := by decide +kernel
theorem dX3_contains_8 : decode cX3_contains 8 = .ok (.iconst 1, 1) := by decide +kernel
theorem dX3_contains_9 : decode cX3_contains 9 = .ok (.goto 4, 3) := by decide +kernel
theorem dX3_contains_12 : decode cX3_contains 12 = .ok (.iconst 0, 1) := by decide +kernel
theorem dX3_contains_13 : decode cX3_contains 13 = .ok (.ireturn, 1) := by decide +kernel
theorem dX3_fail_0 : decode cX3_fail 0 = .ok (.sipush (-10002), 3) := by decide +kernel
theorem dX3_fail_3 : decode cX3_fail 3 = .ok (.iload_n 1, 1) := by decide +kernel
theorem dX3_fail_4 : decode cX3_fail 4 = .ok (.isub, 1) := by decide +kernel
theorem dX3_fail_5 : decode cX3_fail 5 = .ok (.istore_n 2, 1) := by decide +kernel
theorem dX3_fail_6 : decode cX3_fail 6 = .ok (.iload_n 2, 1) := by decide +kernel
theorem dX3_fail_7 : decode cX3_fail 7 = .ok (.ifCond .lt 18, 3) := by decide +kernel
theorem dX3_fail_10 : decode cX3_fail 10 = .ok (.iload_n 2, 1) := by decide +kernel
theorem dX3_fail_11 : decode cX3_fail 11 = .ok (.iconst 3, 1) := by decide +kernel
theorem dX3_fail_12 : decode cX3_fail 12 = .ok (.if_icmp .ge 13, 3) := by decide +kernel
theorem dX3_fail_15 : decode cX3_fail 15 = .ok (.aload_n 0, 1) := by decide +kernel
theorem dX3_fail_16 : decode cX3_fail 16 = .ok (.getfield 24, 3) := by decide +kernel
theorem dX3_fail_19 : decode cX3_fail 19 = .ok (.iload_n 2, 1) := by decide +kernel
theorem dX3_fail_20 : decode cX3_fail 20 = .ok (.dup2, 1) := by decide +kernel
theorem dX3_fail_21 : decode cX3_fail 21 = .ok (.iaload, 1) := by decide +kernel
theorem dX3_fail_22 : decode cX3_fail 22 = .ok (.iconst 1, 1) := by decide +kernel
theorem dX3_fail_23 : decode cX3_fail 23 = .ok (.iadd, 1) := by decide +kernel
theorem dX3_fail_24 : decode cX3_fail 24 = .ok (.iastore, 1) := by decide +kernel
theorem dX3_fail_25 : decode cX3_fail 25 = .ok (.iload_n 1, 1) := by decide +kernel
theorem dX3_fail_26 : decode cX3_fail 26 = .ok (.ireturn, 1) := by decide +kernel
theorem dX3_save_0 : decode cX3_save 0 = .ok (.aload_n 0, 1) := by decide +kernel
theorem dX3_save_1 : decode cX3_save 1 = .ok (.getfield 20, 3) := by decide +kernel
theorem dX3_save_4 : decode cX3_save 4 = .ok (.iconst 4, 1) := by decide +kernel
theorem dX3_save_5 : decode cX3_save 5 = .ok (.if_icmp .lt 7, 3) := by decide +kernel
theorem dX3_save_8 : decode cX3_save 8 = .ok (.aload_n 0, 1) := by decide +kernel
theorem dX3_save_9 : decode cX3_save 9 = .ok (.invokevirtual 181, 3) := by decide +kernel
theorem dX3_save_12 : decode cX3_save 12 = .ok (.aload_n 0, 1) := by decide +kernel
theorem dX3_save_13 : decode cX3_save 13 = .ok (.getfield 16, 3) := by decide +kernel
theorem dX3_save_16 : decode cX3_save 16 = .ok (.aload_n 0, 1) := by decide +kernel
theorem dX3_save_17 : decode cX3_save 17 = .ok (.getfield 20, 3) := by decide +kernel
theorem dX3_save_20 : decode cX3_save 20 = .ok (.aaload, 1) := by decide +kernel
theorem dX3_save_21 : decode cX3_save 21 = .ok (.aload_n 0, 1) := by decide +kernel
theorem dX3_save_22 : decode cX3_save 22 = .ok (.getfield 12, 3) := by decide +kernel
theorem dX3_save_25 : decode cX3_save 25 = .ok (.invokevirtual 150, 3) := by decide +kernel
theorem dX3_save_28 : decode cX3_save 28 = .ok (.aload_n 0, 1) := by decide +kernel
theorem dX3_save_29 : decode cX3_save 29 = .ok (.dup, 1) := by decide +kernel
theorem dX3_save_30 : decode cX3_save 30 = .ok (.getfield 20, 3) := by decide +kernel
theorem dX3_save_33 : decode cX3_save 33 = .ok (.iconst 1, 1) := by decide +kernel
theorem dX3_save_34 : decode cX3_save 34 = .ok (.iadd, 1) := by decide +kernel
theorem dX3_save_35 : decode cX3_save 35 = .ok (.putfield 20, 3) := by decide +kernel
theorem dX3_save_38 : decode cX3_save 38 = .ok (.return_, 1) := by decide +kernel
theorem dX3_dropOldest_0 : decode cX3_dropOldest 0 = .ok (.aload_n 0, 1) := by decide +kernel
theorem dX3_dropOldest_1 : decode cX3_dropOldest 1 = .ok (.getfield 16, 3) := by decide +kernel
theorem dX3_dropOldest_4 : decode cX3_dropOldest 4 = .ok (.iconst 0, 1) := by decide +kernel
theorem dX3_dropOldest_5 : decode cX3_dropOldest 5 = .ok (.aaload, 1) := by decide +kernel
theorem dX3_dropOldest_6 : decode cX3_dropOldest 6 = .ok (.astore_n 1, 1) := by decide +kernel
theorem dX3_dropOldest_7 : decode cX3_dropOldest 7 = .ok (.iconst 1, 1) := by decide +kernel
theorem dX3_dropOldest_8 : decode cX3_dropOldest 8 = .ok (.istore_n 2, 1) := by decide +kernel
theorem dX3_dropOldest_9 : decode cX3_dropOldest 9 = .ok (.iload_n 2, 1) := by decide +kernel
theorem dX3_dropOldest_10 : decode cX3_dropOldest 10 = .ok (.iconst 4, 1) := by decide +kernel
theorem dX3_dropOldest_11 : decode cX3_dropOldest 11 = .ok (.if_icmp .ge 23, 3) := by decide +kernel
theorem dX3_dropOldest_14 : decode cX3_dropOldest 14 = .ok (.aload_n 0, 1) := by decide +kernel
theorem dX3_dropOldest_15 : decode cX3_dropOldest 15 = .ok (.getfield 16, 3) := by decide +kernel
theorem dX3_dropOldest_18 : decode cX3_dropOldest 18 = .ok (.iload_n 2, 1) := by decide +kernel
theorem dX3_dropOldest_19 : decode cX3_dropOldest 19 = .ok (.iconst 1, 1) := by decide +kernel
theorem dX3_dropOldest_20 : decode cX3_dropOldest 20 = .ok (.isub, 1) := by decide +kernel
theorem dX3_dropOldest_21 : decode cX3_dropOldest 21 = .ok (.aload_n 0, 1) := by decide +kernel
theorem dX3_dropOldest_22 : decode cX3_dropOldest 22 = .ok (.getfield 16, 3) := by decide +kernel
theorem dX3_dropOldest_25 : decode cX3_dropOldest 25 = .ok (.iload_n 2, 1) := by decide +kernel
theorem dX3_dropOldest_26 : decode cX3_dropOldest 26 = .ok (.aaload, 1) := by decide +kernel
theorem dX3_dropOldest_27 : decode cX3_dropOldest 27 = .ok (.aastore, 1) := by decide +kernel
theorem dX3_dropOldest_28 : decode cX3_dropOldest 28 = .ok (.iinc 2 1, 3) := by decide +kernel
theorem dX3_dropOldest_31 : decode cX3_dropOldest 31 = .ok (.goto (-22), 3) := by decide +kernel
theorem dX3_dropOldest_34 : decode cX3_dropOldest 34 = .ok (.aload_n 0, 1) := by decide +kernel
theorem dX3_dropOldest_35 : decode cX3_dropOldest 35 = .ok (.getfield 16, 3) := by decide +kernel
theorem dX3_dropOldest_38 : decode cX3_dropOldest 38 = .ok (.iconst 3, 1) := by decide +kernel
theorem dX3_dropOldest_39 : decode cX3_dropOldest 39 = .ok (.aload_n 1, 1) := by decide +kernel
theorem dX3_dropOldest_40 : decode cX3_dropOldest 40 = .ok (.aastore, 1) := by decide +kernel
theorem dX3_dropOldest_41 : decode cX3_dropOldest 41 = .ok (.aload_n 0, 1) := by decide +kernel
theorem dX3_dropOldest_42 : decode cX3_dropOldest 42 = .ok (.iconst 3, 1) := by decide +kernel
theorem dX3_dropOldest_43 : decode cX3_dropOldest 43 = .ok (.putfield 20, 3) := by decide +kernel
theorem dX3_dropOldest_46 : decode cX3_dropOldest 46 = .ok (.return_, 1) := by decide +kernel
theorem dX3_finishEditing_0 : decode cX3_finishEditing 0 = .ok (.aload_n 0, 1) := by decide +kernel
theorem dX3_finishEditing_1 : decode cX3_finishEditing 1 = .ok (.getfield 31, 3) := by decide +kernel
theorem dX3_finishEditing_4 : decode cX3_finishEditing 4 = .ok (.aload_n 0, 1) := by decide +kernel
theorem dX3_finishEditing_5 : decode cX3_finishEditing 5 = .ok (.getfield 12, 3) := by decide +kernel
theorem dX3_finishEditing_8 : decode cX3_finishEditing 8 = .ok (.invokevirtual 154, 3) := by decide +kernel
theorem dX3_finishEditing_11 : decode cX3_finishEditing 11 = .ok (.aload_n 0, 1) := by decide +kernel
theorem dX3_finishEditing_12 : decode cX3_finishEditing 12 = .ok (.invokevirtual 91, 3) := by decide +kernel
theorem dX3_finishEditing_15 : decode cX3_finishEditing 15 = .ok (.aload_n 0, 1) := by decide +kernel
theorem dX3_finishEditing_16 : decode cX3_finishEditing 16 = .ok (.aload_n 0, 1) := by decide +kernel
theorem dX3_finishEditing_17 : decode cX3_finishEditing 17 = .ok (.getfield 12, 3) := by decide +kernel
theorem dX3_finishEditing_20 : decode cX3_finishEditing 20 = .ok (.getfield 88, 3) := by decide +kernel
theorem dX3_finishEditing_23 : decode cX3_finishEditing 23 = .ok (.iconst 1, 1) := by decide +kernel
theorem dX3_finishEditing_24 : decode cX3_finishEditing 24 = .ok (.if_icmp .ne 9, 3) := by decide +kernel
theorem dX3_finishEditing_27 : decode cX3_finishEditing 27 = .ok (.sipush 4095, 3) := by decide +kernel
theorem dX3_finishEditing_30 : decode cX3_finishEditing 30 = .ok (.goto 4, 3) := by decide +kernel
theorem dX3_finishEditing_33 : decode cX3_finishEditing 33 = .ok (.iconst 0, 1) := by decide +kernel
theorem dX3_finishEditing_34 : decode cX3_finishEditing 34 = .ok (.invokevirtual 94, 3) := by decide +kernel
theorem dX3_finishEditing_37 : decode cX3_finishEditing 37 = .ok (.return_, 1) := by decide +kernel
theorem dX3_startLastRun_0 : decode cX3_startLastRun 0 = .ok (.aload_n 0, 1) := by decide +kernel
theorem dX3_startLastRun_1 : decode cX3_startLastRun 1 = .ok (.getfield 12, 3) := by decide +kernel
theorem dX3_startLastRun_4 : decode cX3_startLastRun 4 = .ok (.iconst 0, 1) := by decide +kernel
theorem dX3_startLastRun_5 : decode cX3_startLastRun 5 = .ok (.putfield 97, 3) := by decide +kernel
theorem dX3_startLastRun_8 : decode cX3_startLastRun 8 = .ok (.return_, 1) := by decide +kernel
theorem dX3_walkRunOrder_0 : decode cX3_walkRunOrder 0 = .ok (.aload_n 0, 1) := by decide +kernel
theorem dX3_walkRunOrder_1 : decode cX3_walkRunOrder 1 = .ok (.iconst 0, 1) := by decide +kernel
theorem dX3_walkRunOrder_2 : decode cX3_walkRunOrder 2 = .ok (.putfield 35, 3) := by decide +kernel
theorem dX3_walkRunOrder_5 : decode cX3_walkRunOrder 5 = .ok (.iconst 0, 1) := by decide +kernel
theorem dX3_walkRunOrder_6 : decode cX3_walkRunOrder 6 = .ok (.istore_n 2, 1) := by decide +kernel
theorem dX3_walkRunOrder_7 : decode cX3_walkRunOrder 7 = .ok (.iload_n 2, 1) := by decide +kernel
theorem dX3_walkRunOrder_8 : decode cX3_walkRunOrder 8 = .ok (.aload_n 0, 1) := by decide +kernel
theorem dX3_walkRunOrder_9 : decode cX3_walkRunOrder 9 = .ok (.getfield 31, 3) := by decide +kernel
theorem dX3_walkRunOrder_12 : decode cX3_walkRunOrder 12 = .ok (.getfield 139, 3) := by decide +kernel
theorem dX3_walkRunOrder_15 : decode cX3_walkRunOrder 15 = .ok (.if_icmp .ge 64, 3) := by decide +kernel
theorem dX3_walkRunOrder_18 : decode cX3_walkRunOrder 18 = .ok (.aload_n 0, 1) := by decide +kernel
theorem dX3_walkRunOrder_19 : decode cX3_walkRunOrder 19 = .ok (.getfield 31, 3) := by decide +kernel
theorem dX3_walkRunOrder_22 : decode cX3_walkRunOrder 22 = .ok (.getfield 142, 3) := by decide +kernel
theorem dX3_walkRunOrder_25 : decode cX3_walkRunOrder 25 = .ok (.iload_n 2, 1) := by decide +kernel
theorem dX3_walkRunOrder_26 : decode cX3_walkRunOrder 26 = .ok (.iaload, 1) := by decide +kernel
theorem dX3_walkRunOrder_27 : decode cX3_walkRunOrder 27 = .ok (.istore_n 3, 1) := by decide +kernel
theorem dX3_walkRunOrder_28 : decode cX3_walkRunOrder 28 = .ok (.aload_n 0, 1) := by decide +kernel
theorem dX3_walkRunOrder_29 : decode cX3_walkRunOrder 29 = .ok (.iload_n 3, 1) := by decide +kernel
theorem dX3_walkRunOrder_30 : decode cX3_walkRunOrder 30 = .ok (.invokevirtual 184, 3) := by decide +kernel
theorem dX3_walkRunOrder_33 : decode cX3_walkRunOrder 33 = .ok (.istore 4, 2) := by decide +kernel
theorem dX3_walkRunOrder_35 : decode cX3_walkRunOrder 35 = .ok (.iload 4, 2) := by decide +kernel
theorem dX3_walkRunOrder_37 : decode cX3_walkRunOrder 37 = .ok (.ifCond .ne 19, 3) := by decide +kernel
theorem dX3_walkRunOrder_40 : decode cX3_walkRunOrder 40 = .ok (.iload_n 1, 1) := by decide +kernel
theorem dX3_walkRunOrder_41 : decode cX3_walkRunOrder 41 = .ok (.iload_n 3, 1) := by decide +kernel
theorem dX3_walkRunOrder_42 : decode cX3_walkRunOrder 42 = .ok (.invokestatic 187, 3) := by decide +kernel
theorem dX3_walkRunOrder_45 : decode cX3_walkRunOrder 45 = .ok (.ifCond .eq 11, 3) := by decide +kernel
theorem dX3_walkRunOrder_48 : decode cX3_walkRunOrder 48 = .ok (.aload_n 0, 1) := by decide +kernel
theorem dX3_walkRunOrder_49 : decode cX3_walkRunOrder 49 = .ok (.iload_n 3, 1) := by decide +kernel
theorem dX3_walkRunOrder_50 : decode cX3_walkRunOrder 50 = .ok (.invokevirtual 191, 3) := by decide +kernel
theorem dX3_walkRunOrder_53 : decode cX3_walkRunOrder 53 = .ok (.iconst 1, 1) := by decide +kernel
theorem dX3_walkRunOrder_54 : decode cX3_walkRunOrder 54 = .ok (.istore 4, 2) := by decide +kernel
theorem dX3_walkRunOrder_56 : decode cX3_walkRunOrder 56 = .ok (.iload 4, 2) := by decide +kernel
theorem dX3_walkRunOrder_58 : decode cX3_walkRunOrder 58 = .ok (.ifCond .eq 15, 3) := by decide +kernel
theorem dX3_walkRunOrder_61 : decode cX3_walkRunOrder 61 = .ok (.aload_n 0, 1) := by decide +kernel
theorem dX3_walkRunOrder_62 : decode cX3_walkRunOrder 62 = .ok (.dup, 1) := by decide +kernel
theorem dX3_walkRunOrder_63 : decode cX3_walkRunOrder 63 = .ok (.getfield 35, 3) := by decide +kernel
theorem dX3_walkRunOrder_66 : decode cX3_walkRunOrder 66 = .ok (.iconst 1, 1) := by decide +kernel
theorem dX3_walkRunOrder_67 : decode cX3_walkRunOrder 67 = .ok (.iload_n 3, 1) := by decide +kernel
theorem dX3_walkRunOrder_68 : decode cX3_walkRunOrder 68 = .ok (.ishl, 1) := by decide +kernel
theorem dX3_walkRunOrder_69 : decode cX3_walkRunOrder 69 = .ok (.ior, 1) := by decide +kernel
theorem dX3_walkRunOrder_70 : decode cX3_walkRunOrder 70 = .ok (.putfield 35, 3) := by decide +kernel
theorem dX3_walkRunOrder_73 : decode cX3_walkRunOrder 73 = .ok (.iinc 2 1, 3) := by decide +kernel
theorem dX3_walkRunOrder_76 : decode cX3_walkRunOrder 76 = .ok (.goto (-69), 3) := by decide +kernel
theorem dX3_walkRunOrder_79 : decode cX3_walkRunOrder 79 = .ok (.return_, 1) := by decide +kernel
theorem dX3_isUpToDate_0 : decode cX3_isUpToDate 0 = .ok (.aload_n 0, 1) := by decide +kernel
theorem dX3_isUpToDate_1 : decode cX3_isUpToDate 1 = .ok (.getfield 12, 3) := by decide +kernel
theorem dX3_isUpToDate_4 : decode cX3_isUpToDate 4 = .ok (.getfield 63, 3) := by decide +kernel
theorem dX3_isUpToDate_7 : decode cX3_isUpToDate 7 = .ok (.iload_n 1, 1) := by decide +kernel
theorem dX3_isUpToDate_8 : decode cX3_isUpToDate 8 = .ok (.aaload, 1) := by decide +kernel
theorem dX3_isUpToDate_9 : decode cX3_isUpToDate 9 = .ok (.astore_n 2, 1) := by decide +kernel
theorem dX3_isUpToDate_10 : decode cX3_isUpToDate 10 = .ok (.aload_n 2, 1) := by decide +kernel
theorem dX3_isUpToDate_11 : decode cX3_isUpToDate 11 = .ok (.getfield 121, 3) := by decide +kernel
theorem dX3_isUpToDate_14 : decode cX3_isUpToDate 14 = .ok (.ifCond .eq 56, 3) := by decide +kernel
theorem dX3_isUpToDate_17 : decode cX3_isUpToDate 17 = .ok (.aload_n 0, 1) := by decide +kernel
theorem dX3_isUpToDate_18 : decode cX3_isUpToDate 18 = .ok (.getfield 31, 3) := by decide +kernel
theorem dX3_isUpToDate_21 : decode cX3_isUpToDate 21 = .ok (.getfield 130, 3) := by decide +kernel
theorem dX3_isUpToDate_24 : decode cX3_isUpToDate 24 = .ok (.iload_n 1, 1) := by decide +kernel
theorem dX3_isUpToDate_25 : decode cX3_isUpToDate 25 = .ok (.iaload, 1) := by decide +kernel
theorem dX3_isUpToDate_26 : decode cX3_isUpToDate 26 = .ok (.aload_n 0, 1) := by decide +kernel
theorem dX3_isUpToDate_27 : decode cX3_isUpToDate 27 = .ok (.getfield 35, 3) := by decide +kernel
theorem dX3_isUpToDate_30 : decode cX3_isUpToDate 30 = .ok (.iconst (-1), 1) := by decide +kernel
theorem dX3_isUpToDate_31 : decode cX3_isUpToDate 31 = .ok (.ixor, 1) := by decide +kernel
theorem dX3_isUpToDate_32 : decode cX3_isUpToDate 32 = .ok (.iand, 1) := by decide +kernel
theorem dX3_isUpToDate_33 : decode cX3_isUpToDate 33 = .ok (.ifCond .ne 37, 3) := by decide +kernel
theorem dX3_isUpToDate_36 : decode cX3_isUpToDate 36 = .ok (.aload_n 2, 1) := by decide +kernel
theorem dX3_isUpToDate_37 : decode cX3_isUpToDate 37 = .ok (.getfield 194, 3) := by decide +kernel
theorem dX3_isUpToDate_40 : decode cX3_isUpToDate 40 = .ok (.aload_n 0, 1) := by decide +kernel
theorem dX3_isUpToDate_41 : decode cX3_isUpToDate 41 = .ok (.aload_n 2, 1) := by decide +kernel
theorem dX3_isUpToDate_42 : decode cX3_isUpToDate 42 = .ok (.getfield 170, 3) := by decide +kernel
theorem dX3_isUpToDate_45 : decode cX3_isUpToDate 45 = .ok (.invokevirtual 197, 3) := by decide +kernel
theorem dX3_isUpToDate_48 : decode cX3_isUpToDate 48 = .ok (.if_icmp .ne 22, 3) := by decide +kernel
theorem dX3_isUpToDate_51 : decode cX3_isUpToDate 51 = .ok (.aload_n 2, 1) := by decide +kernel
theorem dX3_isUpToDate_52 : decode cX3_isUpToDate 52 = .ok (.getfield 200, 3) := by decide +kernel
theorem dX3_isUpToDate_55 : decode cX3_isUpToDate 55 = .ok (.aload_n 0, 1) := by decide +kernel
theorem dX3_isUpToDate_56 : decode cX3_isUpToDate 56 = .ok (.aload_n 2, 1) := by decide +kernel
theorem dX3_isUpToDate_57 : decode cX3_isUpToDate 57 = .ok (.getfield 173, 3) := by decide +kernel
theorem dX3_isUpToDate_60 : decode cX3_isUpToDate 60 = .ok (.invokevirtual 197, 3) := by decide +kernel
theorem dX3_isUpToDate_63 : decode cX3_isUpToDate 63 = .ok (.if_icmp .ne 7, 3) := by decide +kernel
theorem dX3_isUpToDate_66 : decode cX3_isUpToDate 66 = .ok (.iconst 1, 1) := by decide +kernel
theorem dX3_isUpToDate_67 : decode cX3_isUpToDate 67 = .ok (.goto 4, 3) := by decide +kernel
theorem dX3_isUpToDate_70 : decode cX3_isUpToDate 70 = .ok (.iconst 0, 1) := by decide +kernel
theorem dX3_isUpToDate_71 : decode cX3_isUpToDate 71 = .ok (.ireturn, 1) := by decide +kernel
theorem dX3_run_0 : decode cX3_run 0 = .ok (.aload_n 0, 1) := by decide +kernel
theorem dX3_run_1 : decode cX3_run 1 = .ok (.getfield 12, 3) := by decide +kernel
theorem dX3_run_4 : decode cX3_run 4 = .ok (.getfield 63, 3) := by decide +kernel
theorem dX3_run_7 : decode cX3_run 7 = .ok (.iload_n 1, 1) := by decide +kernel
theorem dX3_run_8 : decode cX3_run 8 = .ok (.aaload, 1) := by decide +kernel
theorem dX3_run_9 : decode cX3_run 9 = .ok (.astore_n 2, 1) := by decide +kernel
theorem dX3_run_10 : decode cX3_run 10 = .ok (.aload_n 2, 1) := by decide +kernel
theorem dX3_run_11 : decode cX3_run 11 = .ok (.aload_n 0, 1) := by decide +kernel
theorem dX3_run_12 : decode cX3_run 12 = .ok (.aload_n 2, 1) := by decide +kernel
theorem dX3_run_13 : decode cX3_run 13 = .ok (.getfield 170, 3) := by decide +kernel
theorem dX3_run_16 : decode cX3_run 16 = .ok (.invokevirtual 197, 3) := by decide +kernel
theorem dX3_run_19 : decode cX3_run 19 = .ok (.putfield 194, 3) := by decide +kernel
theorem dX3_run_22 : decode cX3_run 22 = .ok (.aload_n 2, 1) := by decide +kernel
theorem dX3_run_23 : decode cX3_run 23 = .ok (.aload_n 0, 1) := by decide +kernel
theorem dX3_run_24 : decode cX3_run 24 = .ok (.aload_n 2, 1) := by decide +kernel
theorem dX3_run_25 : decode cX3_run 25 = .ok (.getfield 173, 3) := by decide +kernel
theorem dX3_run_28 : decode cX3_run 28 = .ok (.invokevirtual 197, 3) := by decide +kernel
theorem dX3_run_31 : decode cX3_run 31 = .ok (.putfield 200, 3) := by decide +kernel
theorem dX3_run_34 : decode cX3_run 34 = .ok (.aload_n 2, 1) := by decide +kernel
theorem dX3_run_35 : decode cX3_run 35 = .ok (.getfield 167, 3) := by decide +kernel
theorem dX3_run_38 : decode cX3_run 38 = .ok (.aload_n 0, 1) := by decide +kernel
theorem dX3_run_39 : decode cX3_run 39 = .ok (.aload_n 2, 1) := by decide +kernel
theorem dX3_run_40 : decode cX3_run 40 = .ok (.getfield 170, 3) := by decide +kernel
theorem dX3_run_43 : decode cX3_run 43 = .ok (.invokevirtual 203, 3) := by decide +kernel
theorem dX3_run_46 : decode cX3_run 46 = .ok (.aload_n 0, 1) := by decide +kernel
theorem dX3_run_47 : decode cX3_run 47 = .ok (.aload_n 2, 1) := by decide +kernel
theorem dX3_run_48 : decode cX3_run 48 = .ok (.getfield 173, 3) := by decide +kernel
theorem dX3_run_51 : decode cX3_run 51 = .ok (.invokevirtual 203, 3) := by decide +kernel
theorem dX3_run_54 : decode cX3_run 54 = .ok (.invokestatic 206, 3) := by decide +kernel
theorem dX3_run_57 : decode cX3_run 57 = .ok (.istore_n 3, 1) := by decide +kernel
theorem dX3_run_58 : decode cX3_run 58 = .ok (.aload_n 2, 1) := by decide +kernel
theorem dX3_run_59 : decode cX3_run 59 = .ok (.getfield 121, 3) := by decide +kernel
theorem dX3_run_62 : decode cX3_run 62 = .ok (.ifCond .eq 11, 3) := by decide +kernel
theorem dX3_run_65 : decode cX3_run 65 = .ok (.iload_n 3, 1) := by decide +kernel
theorem dX3_run_66 : decode cX3_run 66 = .ok (.aload_n 2, 1) := by decide +kernel
theorem dX3_run_67 : decode cX3_run 67 = .ok (.getfield 210, 3) := by decide +kernel
theorem dX3_run_70 : decode cX3_run 70 = .ok (.if_icmp .eq 32, 3) := by decide +kernel
theorem dX3_run_73 : decode cX3_run 73 = .ok (.aload_n 0, 1) := by decide +kernel
theorem dX3_run_74 : decode cX3_run 74 = .ok (.getfield 12, 3) := by decide +kernel
theorem dX3_run_77 : decode cX3_run 77 = .ok (.dup, 1) := by decide +kernel
theorem dX3_run_78 : decode cX3_run 78 = .ok (.getfield 213, 3) := by decide +kernel
theorem dX3_run_81 : decode cX3_run 81 = .ok (.iconst 1, 1) := by decide +kernel
theorem dX3_run_82 : decode cX3_run 82 = .ok (.iadd, 1) := by decide +kernel
theorem dX3_run_83 : decode cX3_run 83 = .ok (.putfield 213, 3) := by decide +kernel
theorem dX3_run_86 : decode cX3_run 86 = .ok (.aload_n 2, 1) := by decide +kernel
theorem dX3_run_87 : decode cX3_run 87 = .ok (.aload_n 0, 1) := by decide +kernel
theorem dX3_run_88 : decode cX3_run 88 = .ok (.getfield 12, 3) := by decide +kernel
theorem dX3_run_91 : decode cX3_run 91 = .ok (.getfield 213, 3) := by decide +kernel
theorem dX3_run_94 : decode cX3_run 94 = .ok (.putfield 121, 3) := by decide +kernel
theorem dX3_run_97 : decode cX3_run 97 = .ok (.aload_n 2, 1) := by decide +kernel
theorem dX3_run_98 : decode cX3_run 98 = .ok (.iload_n 3, 1) := by decide +kernel
theorem dX3_run_99 : decode cX3_run 99 = .ok (.putfield 210, 3) := by decide +kernel
theorem dX3_run_102 : decode cX3_run 102 = .ok (.aload_n 2, 1) := by decide +kernel
theorem dX3_run_103 : decode cX3_run 103 = .ok (.dup, 1) := by decide +kernel
theorem dX3_run_104 : decode cX3_run 104 = .ok (.getfield 124, 3) := by decide +kernel
theorem dX3_run_107 : decode cX3_run 107 = .ok (.iconst 1, 1) := by decide +kernel
theorem dX3_run_108 : decode cX3_run 108 = .ok (.iadd, 1) := by decide +kernel
theorem dX3_run_109 : decode cX3_run 109 = .ok (.putfield 124, 3) := by decide +kernel
theorem dX3_run_112 : decode cX3_run 112 = .ok (.aload_n 0, 1) := by decide +kernel
theorem dX3_run_113 : decode cX3_run 113 = .ok (.getfield 12, 3) := by decide +kernel
theorem dX3_run_116 : decode cX3_run 116 = .ok (.iload_n 1, 1) := by decide +kernel
theorem dX3_run_117 : decode cX3_run 117 = .ok (.invokevirtual 216, 3) := by decide +kernel
theorem dX3_run_120 : decode cX3_run 120 = .ok (.return_, 1) := by decide +kernel
theorem dX3_inputVersion_0 : decode cX3_inputVersion 0 = .ok (.aload_n 0, 1) := by decide +kernel
theorem dX3_inputVersion_1 : decode cX3_inputVersion 1 = .ok (.getfield 31, 3) := by decide +kernel
theorem dX3_inputVersion_4 : decode cX3_inputVersion 4 = .ok (.iload_n 1, 1) := by decide +kernel
theorem dX3_inputVersion_5 : decode cX3_inputVersion 5 = .ok (.invokevirtual 219, 3) := by decide +kernel
theorem dX3_inputVersion_8 : decode cX3_inputVersion 8 = .ok (.istore_n 2, 1) := by decide +kernel
theorem dX3_inputVersion_9 : decode cX3_inputVersion 9 = .ok (.iload_n 2, 1) := by decide +kernel
theorem dX3_inputVersion_10 : decode cX3_inputVersion 10 = .ok (.iconst (-1), 1) := by decide +kernel
theorem dX3_inputVersion_11 : decode cX3_inputVersion 11 = .ok (.if_icmp .ne 7, 3) := by decide +kernel
theorem dX3_inputVersion_14 : decode cX3_inputVersion 14 = .ok (.iconst 0, 1) := by decide +kernel
theorem dX3_inputVersion_15 : decode cX3_inputVersion 15 = .ok (.goto 15, 3) := by decide +kernel
theorem dX3_inputVersion_18 : decode cX3_inputVersion 18 = .ok (.aload_n 0, 1) := by decide +kernel
theorem dX3_inputVersion_19 : decode cX3_inputVersion 19 = .ok (.getfield 12, 3) := by decide +kernel
theorem dX3_inputVersion_22 : decode cX3_inputVersion 22 = .ok (.getfield 63, 3) := by decide +kernel
theorem dX3_inputVersion_25 : decode cX3_inputVersion 25 = .ok (.iload_n 2, 1) := by decide +kernel
theorem dX3_inputVersion_26 : decode cX3_inputVersion 26 = .ok (.aaload, 1) := by decide +kernel
theorem dX3_inputVersion_27 : decode cX3_inputVersion 27 = .ok (.getfield 121, 3) := by decide +kernel
theorem dX3_inputVersion_30 : decode cX3_inputVersion 30 = .ok (.ireturn, 1) := by decide +kernel
theorem dX3_inputResult_0 : decode cX3_inputResult 0 = .ok (.aload_n 0, 1) := by decide +kernel
theorem dX3_inputResult_1 : decode cX3_inputResult 1 = .ok (.getfield 31, 3) := by decide +kernel
theorem dX3_inputResult_4 : decode cX3_inputResult 4 = .ok (.iload_n 1, 1) := by decide +kernel
theorem dX3_inputResult_5 : decode cX3_inputResult 5 = .ok (.invokevirtual 219, 3) := by decide +kernel
theorem dX3_inputResult_8 : decode cX3_inputResult 8 = .ok (.istore_n 2, 1) := by decide +kernel
theorem dX3_inputResult_9 : decode cX3_inputResult 9 = .ok (.iload_n 2, 1) := by decide +kernel
theorem dX3_inputResult_10 : decode cX3_inputResult 10 = .ok (.iconst (-1), 1) := by decide +kernel
theorem dX3_inputResult_11 : decode cX3_inputResult 11 = .ok (.if_icmp .ne 7, 3) := by decide +kernel
theorem dX3_inputResult_14 : decode cX3_inputResult 14 = .ok (.iload_n 1, 1) := by decide +kernel
theorem dX3_inputResult_15 : decode cX3_inputResult 15 = .ok (.goto 15, 3) := by decide +kernel
theorem dX3_inputResult_18 : decode cX3_inputResult 18 = .ok (.aload_n 0, 1) := by decide +kernel
theorem dX3_inputResult_19 : decode cX3_inputResult 19 = .ok (.getfield 12, 3) := by decide +kernel
theorem dX3_inputResult_22 : decode cX3_inputResult 22 = .ok (.getfield 63, 3) := by decide +kernel
theorem dX3_inputResult_25 : decode cX3_inputResult 25 = .ok (.iload_n 2, 1) := by decide +kernel
theorem dX3_inputResult_26 : decode cX3_inputResult 26 = .ok (.aaload, 1) := by decide +kernel
theorem dX3_inputResult_27 : decode cX3_inputResult 27 = .ok (.getfield 210, 3) := by decide +kernel
theorem dX3_inputResult_30 : decode cX3_inputResult 30 = .ok (.ireturn, 1) := by decide +kernel
theorem dX3_combine_0 : decode cX3_combine 0 = .ok (.iload_n 1, 1) := by decide +kernel
theorem dX3_combine_1 : decode cX3_combine 1 = .ok (.invokestatic 222, 3) := by decide +kernel
theorem dX3_combine_4 : decode cX3_combine 4 = .ok (.ifCond .ne 10, 3) := by decide +kernel
theorem dX3_combine_7 : decode cX3_combine 7 = .ok (.iload_n 2, 1) := by decide +kernel
theorem dX3_combine_8 : decode cX3_combine 8 = .ok (.invokestatic 222, 3) := by decide +kernel
theorem dX3_combine_11 : decode cX3_combine 11 = .ok (.ifCond .eq 7, 3) := by decide +kernel
theorem dX3_combine_14 : decode cX3_combine 14 = .ok (.sipush 10005, 3) := by decide +kernel
theorem dX3_combine_17 : decode cX3_combine 17 = .ok (.ireturn, 1) := by decide +kernel
theorem dX3_combine_18 : decode cX3_combine 18 = .ok (.iload_n 0, 1) := by decide +kernel
theorem dX3_combine_19 : decode cX3_combine 19 = .ok (.tableswitch 74 0 4 #[33, 40, 47, 54, 68], 33) := by decide +kernel
theorem dX3_combine_52 : decode cX3_combine 52 = .ok (.iload_n 1, 1) := by decide +kernel
theorem dX3_combine_53 : decode cX3_combine 53 = .ok (.iload_n 2, 1) := by decide +kernel
theorem dX3_combine_54 : decode cX3_combine 54 = .ok (.iadd, 1) := by decide +kernel
theorem dX3_combine_55 : decode cX3_combine 55 = .ok (.invokestatic 225, 3) := by decide +kernel
theorem dX3_combine_58 : decode cX3_combine 58 = .ok (.ireturn, 1) := by decide +kernel
theorem dX3_combine_59 : decode cX3_combine 59 = .ok (.iload_n 1, 1) := by decide +kernel
theorem dX3_combine_60 : decode cX3_combine 60 = .ok (.iload_n 2, 1) := by decide +kernel
theorem dX3_combine_61 : decode cX3_combine 61 = .ok (.isub, 1) := by decide +kernel
theorem dX3_combine_62 : decode cX3_combine 62 = .ok (.invokestatic 225, 3) := by decide +kernel
theorem dX3_combine_65 : decode cX3_combine 65 = .ok (.ireturn, 1) := by decide +kernel
theorem dX3_combine_66 : decode cX3_combine 66 = .ok (.iload_n 1, 1) := by decide +kernel
theorem dX3_combine_67 : decode cX3_combine 67 = .ok (.iload_n 2, 1) := by decide +kernel
theorem dX3_combine_68 : decode cX3_combine 68 = .ok (.imul, 1) := by decide +kernel
theorem dX3_combine_69 : decode cX3_combine 69 = .ok (.invokestatic 225, 3) := by decide +kernel
theorem dX3_combine_72 : decode cX3_combine 72 = .ok (.ireturn, 1) := by decide +kernel
theorem dX3_combine_73 : decode cX3_combine 73 = .ok (.iload_n 2, 1) := by decide +kernel
theorem dX3_combine_74 : decode cX3_combine 74 = .ok (.ifCond .ne 9, 3) := by decide +kernel
theorem dX3_combine_77 : decode cX3_combine 77 = .ok (.sipush 10007, 3) := by decide +kernel
theorem dX3_combine_80 : decode cX3_combine 80 = .ok (.goto 6, 3) := by decide +kernel
theorem dX3_combine_83 : decode cX3_combine 83 = .ok (.iload_n 1, 1) := by decide +kernel
theorem dX3_combine_84 : decode cX3_combine 84 = .ok (.iload_n 2, 1) := by decide +kernel
theorem dX3_combine_85 : decode cX3_combine 85 = .ok (.idiv, 1) := by decide +kernel
theorem dX3_combine_86 : decode cX3_combine 86 = .ok (.ireturn, 1) := by decide +kernel
theorem dX3_combine_87 : decode cX3_combine 87 = .ok (.iload_n 1, 1) := by decide +kernel
theorem dX3_combine_88 : decode cX3_combine 88 = .ok (.iload_n 2, 1) := by decide +kernel
theorem dX3_combine_89 : decode cX3_combine 89 = .ok (.invokestatic 228, 3) := by decide +kernel
theorem dX3_combine_92 : decode cX3_combine 92 = .ok (.ireturn, 1) := by decide +kernel
theorem dX3_combine_93 : decode cX3_combine 93 = .ok (.iload_n 1, 1) := by decide +kernel
theorem dX3_combine_94 : decode cX3_combine 94 = .ok (.iload_n 2, 1) := by decide +kernel
theorem dX3_combine_95 : decode cX3_combine 95 = .ok (.invokestatic 232, 3) := by decide +kernel
theorem dX3_combine_98 : decode cX3_combine 98 = .ok (.ireturn, 1) := by decide +kernel
theorem dX3_limit_0 : decode cX3_limit 0 = .ok (.iload_n 0, 1) := by decide +kernel
theorem dX3_limit_1 : decode cX3_limit 1 = .ok (.sipush (-9999), 3) := by decide +kernel
theorem dX3_limit_4 : decode cX3_limit 4 = .ok (.if_icmp .lt 10, 3) := by decide +kernel
theorem dX3_limit_7 : decode cX3_limit 7 = .ok (.iload_n 0, 1) := by decide +kernel
theorem dX3_limit_8 : decode cX3_limit 8 = .ok (.sipush 9999, 3) := by decide +kernel
theorem dX3_limit_11 : decode cX3_limit 11 = .ok (.if_icmp .le 9, 3) := by decide +kernel
theorem dX3_limit_14 : decode cX3_limit 14 = .ok (.sipush 10006, 3) := by decide +kernel
theorem dX3_limit_17 : decode cX3_limit 17 = .ok (.goto 4, 3) := by decide +kernel
theorem dX3_limit_20 : decode cX3_limit 20 = .ok (.iload_n 0, 1) := by decide +kernel
theorem dX3_limit_21 : decode cX3_limit 21 = .ok (.ireturn, 1) := by decide +kernel
theorem dX3_isErrorResult_0 : decode cX3_isErrorResult 0 = .ok (.iload_n 0, 1) := by decide +kernel
theorem dX3_isErrorResult_1 : decode cX3_isErrorResult 1 = .ok (.sipush 10000, 3) := by decide +kernel
theorem dX3_isErrorResult_4 : decode cX3_isErrorResult 4 = .ok (.if_icmp .lt 7, 3) := by decide +kernel
theorem dX3_isErrorResult_7 : decode cX3_isErrorResult 7 = .ok (.iconst 1, 1) := by decide +kernel
theorem dX3_isErrorResult_8 : decode cX3_isErrorResult 8 = .ok (.goto 4, 3) := by decide +kernel
theorem dX3_isErrorResult_11 : decode cX3_isErrorResult 11 = .ok (.iconst 0, 1) := by decide +kernel
theorem dX3_isErrorResult_12 : decode cX3_isErrorResult 12 = .ok (.ireturn, 1) := by decide +kernel
theorem dX3_statusOf_0 : decode cX3_statusOf 0 = .ok (.aload_n 0, 1) := by decide +kernel
theorem dX3_statusOf_1 : decode cX3_statusOf 1 = .ok (.getfield 31, 3) := by decide +kernel
theorem dX3_statusOf_4 : decode cX3_statusOf 4 = .ok (.getfield 100, 3) := by decide +kernel
theorem dX3_statusOf_7 : decode cX3_statusOf 7 = .ok (.iload_n 1, 1) := by decide +kernel
theorem dX3_statusOf_8 : decode cX3_statusOf 8 = .ok (.iaload, 1) := by decide +kernel
theorem dX3_statusOf_9 : decode cX3_statusOf 9 = .ok (.ifCond .eq 13, 3) := by decide +kernel
theorem dX3_statusOf_12 : decode cX3_statusOf 12 = .ok (.aload_n 0, 1) := by decide +kernel
theorem dX3_statusOf_13 : decode cX3_statusOf 13 = .ok (.getfield 31, 3) := by decide +kernel
theorem dX3_statusOf_16 : decode cX3_statusOf 16 = .ok (.getfield 100, 3) := by decide +kernel
theorem dX3_statusOf_19 : decode cX3_statusOf 19 = .ok (.iload_n 1, 1) := by decide +kernel
theorem dX3_statusOf_20 : decode cX3_statusOf 20 = .ok (.iaload, 1) := by decide +kernel
theorem dX3_statusOf_21 : decode cX3_statusOf 21 = .ok (.ireturn, 1) := by decide +kernel
theorem dX3_statusOf_22 : decode cX3_statusOf 22 = .ok (.aload_n 0, 1) := by decide +kernel
theorem dX3_statusOf_23 : decode cX3_statusOf 23 = .ok (.getfield 35, 3) := by decide +kernel
theorem dX3_statusOf_26 : decode cX3_statusOf 26 = .ok (.iload_n 1, 1) := by decide +kernel
theorem dX3_statusOf_27 : decode cX3_statusOf 27 = .ok (.invokestatic 187, 3) := by decide +kernel
theorem dX3_statusOf_30 : decode cX3_statusOf 30 = .ok (.ifCond .ne 5, 3) := by decide +kernel
theorem dX3_statusOf_33 : decode cX3_statusOf 33 = .ok (.iconst 1, 1) := by decide +kernel
theorem dX3_statusOf_34 : decode cX3_statusOf 34 = .ok (.ireturn, 1) := by decide +kernel
theorem dX3_statusOf_35 : decode cX3_statusOf 35 = .ok (.aload_n 0, 1) := by decide +kernel
theorem dX3_statusOf_36 : decode cX3_statusOf 36 = .ok (.getfield 12, 3) := by decide +kernel
theorem dX3_statusOf_39 : decode cX3_statusOf 39 = .ok (.getfield 63, 3) := by decide +kernel
theorem dX3_statusOf_42 : decode cX3_statusOf 42 = .ok (.iload_n 1, 1) := by decide +kernel
theorem dX3_statusOf_43 : decode cX3_statusOf 43 = .ok (.aaload, 1) := by decide +kernel
theorem dX3_statusOf_44 : decode cX3_statusOf 44 = .ok (.getfield 210, 3) := by decide +kernel
theorem dX3_statusOf_47 : decode cX3_statusOf 47 = .ok (.istore_n 2, 1) := by decide +kernel
theorem dX3_statusOf_48 : decode cX3_statusOf 48 = .ok (.iload_n 2, 1) := by decide +kernel
theorem dX3_statusOf_49 : decode cX3_statusOf 49 = .ok (.invokestatic 222, 3) := by decide +kernel
theorem dX3_statusOf_52 : decode cX3_statusOf 52 = .ok (.ifCond .eq 11, 3) := by decide +kernel
theorem dX3_statusOf_55 : decode cX3_statusOf 55 = .ok (.iload_n 2, 1) := by decide +kernel
theorem dX3_statusOf_56 : decode cX3_statusOf 56 = .ok (.sipush 10000, 3) := by decide +kernel
theorem dX3_statusOf_59 : decode cX3_statusOf 59 = .ok (.isub, 1) := by decide +kernel
theorem dX3_statusOf_60 : decode cX3_statusOf 60 = .ok (.goto 4, 3) := by decide +kernel
theorem dX3_statusOf_63 : decode cX3_statusOf 63 = .ok (.iconst 0, 1) := by decide +kernel
theorem dX3_statusOf_64 : decode cX3_statusOf 64 = .ok (.ireturn, 1) := by decide +kernel
theorem dX3_freshValueOf_0 : decode cX3_freshValueOf 0 = .ok (.aload_n 0, 1) := by decide +kernel
theorem dX3_freshValueOf_1 : decode cX3_freshValueOf 1 = .ok (.iload_n 1, 1) := by decide +kernel
theorem dX3_freshValueOf_2 : decode cX3_freshValueOf 2 = .ok (.invokevirtual 109, 3) := by decide +kernel
theorem dX3_freshValueOf_5 : decode cX3_freshValueOf 5 = .ok (.ifCond .ne 18, 3) := by decide +kernel
theorem dX3_freshValueOf_8 : decode cX3_freshValueOf 8 = .ok (.aload_n 0, 1) := by decide +kernel
theorem dX3_freshValueOf_9 : decode cX3_freshValueOf 9 = .ok (.getfield 12, 3) := by decide +kernel
theorem dX3_freshValueOf_12 : decode cX3_freshValueOf 12 = .ok (.getfield 63, 3) := by decide +kernel
theorem dX3_freshValueOf_15 : decode cX3_freshValueOf 15 = .ok (.iload_n 1, 1) := by decide +kernel
theorem dX3_freshValueOf_16 : decode cX3_freshValueOf 16 = .ok (.aaload, 1) := by decide +kernel
theorem dX3_freshValueOf_17 : decode cX3_freshValueOf 17 = .ok (.getfield 210, 3) := by decide +kernel
theorem dX3_freshValueOf_20 : decode cX3_freshValueOf 20 = .ok (.goto 6, 3) := by decide +kernel
theorem dX3_freshValueOf_23 : decode cX3_freshValueOf 23 = .ok (.sipush (-10001), 3) := by decide +kernel
theorem dX3_freshValueOf_26 : decode cX3_freshValueOf 26 = .ok (.ireturn, 1) := by decide +kernel
theorem dX3_dependentsOf_0 : decode cX3_dependentsOf 0 = .ok (.iconst 0, 1) := by decide +kernel
theorem dX3_dependentsOf_1 : decode cX3_dependentsOf 1 = .ok (.istore_n 2, 1) := by decide +kernel
theorem dX3_dependentsOf_2 : decode cX3_dependentsOf 2 = .ok (.iconst 0, 1) := by decide +kernel
theorem dX3_dependentsOf_3 : decode cX3_dependentsOf 3 = .ok (.istore_n 3, 1) := by decide +kernel
theorem dX3_dependentsOf_4 : decode cX3_dependentsOf 4 = .ok (.iload_n 3, 1) := by decide +kernel
theorem dX3_dependentsOf_5 : decode cX3_dependentsOf 5 = .ok (.aload_n 0, 1) := by decide +kernel
theorem dX3_dependentsOf_6 : decode cX3_dependentsOf 6 = .ok (.getfield 12, 3) := by decide +kernel
theorem dX3_dependentsOf_9 : decode cX3_dependentsOf 9 = .ok (.getfield 46, 3) := by decide +kernel
theorem dX3_dependentsOf_12 : decode cX3_dependentsOf 12 = .ok (.if_icmp .ge 31, 3) := by decide +kernel
theorem dX3_dependentsOf_15 : decode cX3_dependentsOf 15 = .ok (.aload_n 0, 1) := by decide +kernel
theorem dX3_dependentsOf_16 : decode cX3_dependentsOf 16 = .ok (.getfield 31, 3) := by decide +kernel
theorem dX3_dependentsOf_19 : decode cX3_dependentsOf 19 = .ok (.getfield 103, 3) := by decide +kernel
theorem dX3_dependentsOf_22 : decode cX3_dependentsOf 22 = .ok (.iload_n 3, 1) := by decide +kernel
theorem dX3_dependentsOf_23 : decode cX3_dependentsOf 23 = .ok (.iaload, 1) := by decide +kernel
theorem dX3_dependentsOf_24 : decode cX3_dependentsOf 24 = .ok (.iload_n 1, 1) := by decide +kernel
theorem dX3_dependentsOf_25 : decode cX3_dependentsOf 25 = .ok (.invokestatic 187, 3) := by decide +kernel
theorem dX3_dependentsOf_28 : decode cX3_dependentsOf 28 = .ok (.ifCond .eq 9, 3) := by decide +kernel
theorem dX3_dependentsOf_31 : decode cX3_dependentsOf 31 = .ok (.iload_n 2, 1) := by decide +kernel
theorem dX3_dependentsOf_32 : decode cX3_dependentsOf 32 = .ok (.iconst 1, 1) := by decide +kernel
theorem dX3_dependentsOf_33 : decode cX3_dependentsOf 33 = .ok (.iload_n 3, 1) := by decide +kernel
theorem dX3_dependentsOf_34 : decode cX3_dependentsOf 34 = .ok (.ishl, 1) := by decide +kernel
theorem dX3_dependentsOf_35 : decode cX3_dependentsOf 35 = .ok (.ior, 1) := by decide +kernel
theorem dX3_dependentsOf_36 : decode cX3_dependentsOf 36 = .ok (.istore_n 2, 1) := by decide +kernel
theorem dX3_dependentsOf_37 : decode cX3_dependentsOf 37 = .ok (.iinc 3 1, 3) := by decide +kernel
theorem dX3_dependentsOf_40 : decode cX3_dependentsOf 40 = .ok (.goto (-36), 3) := by decide +kernel
theorem dX3_dependentsOf_43 : decode cX3_dependentsOf 43 = .ok (.iload_n 2, 1) := by decide +kernel
theorem dX3_dependentsOf_44 : decode cX3_dependentsOf 44 = .ok (.ireturn, 1) := by decide +kernel
theorem dX4_init_0 : decode cX4_init 0 = .ok (.aload_n 0, 1) := by decide +kernel
theorem dX4_init_1 : decode cX4_init 1 = .ok (.invokespecial 1, 3) := by decide +kernel
theorem dX4_init_4 : decode cX4_init 4 = .ok (.aload_n 0, 1) := by decide +kernel
theorem dX4_init_5 : decode cX4_init 5 = .ok (.sipush 137, 3) := by decide +kernel
theorem dX4_init_8 : decode cX4_init 8 = .ok (.newarray .int, 2) := by decide +kernel
theorem dX4_init_10 : decode cX4_init 10 = .ok (.putfield 7, 3) := by decide +kernel
theorem dX4_init_13 : decode cX4_init 13 = .ok (.aload_n 0, 1) := by decide +kernel
theorem dX4_init_14 : decode cX4_init 14 = .ok (.sipush 548, 3) := by decide +kernel
theorem dX4_init_17 : decode cX4_init 17 = .ok (.newarray .int, 2) := by decide +kernel
theorem dX4_init_19 : decode cX4_init 19 = .ok (.putfield 13, 3) := by decide +kernel
theorem dX4_init_22 : decode cX4_init 22 = .ok (.aload_n 0, 1) := by decide +kernel
theorem dX4_init_23 : decode cX4_init 23 = .ok (.iconst 3, 1) := by decide +kernel
theorem dX4_init_24 : decode cX4_init 24 = .ok (.newarray .int, 2) := by decide +kernel
theorem dX4_init_26 : decode cX4_init 26 = .ok (.putfield 16, 3) := by decide +kernel
theorem dX4_init_29 : decode cX4_init 29 = .ok (.aload_n 0, 1) := by decide +kernel
theorem dX4_init_30 : decode cX4_init 30 = .ok (.bipush 12, 2) := by decide +kernel
theorem dX4_init_32 : decode cX4_init 32 = .ok (.newarray .int, 2) := by decide +kernel
theorem dX4_init_34 : decode cX4_init 34 = .ok (.putfield 19, 3) := by decide +kernel
theorem dX4_init_37 : decode cX4_init 37 = .ok (.aload_n 0, 1) := by decide +kernel
theorem dX4_init_38 : decode cX4_init 38 = .ok (.bipush 12, 2) := by decide +kernel
theorem dX4_init_40 : decode cX4_init 40 = .ok (.newarray .int, 2) := by decide +kernel
theorem dX4_init_42 : decode cX4_init 42 = .ok (.putfield 22, 3) := by decide +kernel
theorem dX4_init_45 : decode cX4_init 45 = .ok (.aload_n 0, 1) := by decide +kernel
theorem dX4_init_46 : decode cX4_init 46 = .ok (.bipush 12, 2) := by decide +kernel
theorem dX4_init_48 : decode cX4_init 48 = .ok (.newarray .int, 2) := by decide +kernel
theorem dX4_init_50 : decode cX4_init 50 = .ok (.putfield 25, 3) := by decide +kernel
theorem dX4_init_53 : decode cX4_init 53 = .ok (.aload_n 0, 1) := by decide +kernel
theorem dX4_init_54 : decode cX4_init 54 = .ok (.bipush 12, 2) := by decide +kernel
theorem dX4_init_56 : decode cX4_init 56 = .ok (.newarray .int, 2) := by decide +kernel
theorem dX4_init_58 : decode cX4_init 58 = .ok (.putfield 28, 3) := by decide +kernel
theorem dX4_init_61 : decode cX4_init 61 = .ok (.aload_n 0, 1) := by decide +kernel
theorem dX4_init_62 : decode cX4_init 62 = .ok (.bipush 12, 2) := by decide +kernel
theorem dX4_init_64 : decode cX4_init 64 = .ok (.newarray .boolean, 2) := by decide +kernel
theorem dX4_init_66 : decode cX4_init 66 = .ok (.putfield 31, 3) := by decide +kernel
theorem dX4_init_69 : decode cX4_init 69 = .ok (.aload_n 0, 1) := by decide +kernel
theorem dX4_init_70 : decode cX4_init 70 = .ok (.bipush 10, 2) := by decide +kernel
theorem dX4_init_72 : decode cX4_init 72 = .ok (.newarray .int, 2) := by decide +kernel
theorem dX4_init_74 : decode cX4_init 74 = .ok (.putfield 35, 3) := by decide +kernel
theorem dX4_init_77 : decode cX4_init 77 = .ok (.return_, 1) := by decide +kernel
theorem dX4_in_0 : decode cX4_in 0 = .ok (.iload_n 0, 1) := by decide +kernel
theorem dX4_in_1 : decode cX4_in 1 = .ok (.iload_n 1, 1) := by decide +kernel
theorem dX4_in_2 : decode cX4_in 2 = .ok (.if_icmp .lt 12, 3) := by decide +kernel
theorem dX4_in_5 : decode cX4_in 5 = .ok (.iload_n 0, 1) := by decide +kernel
theorem dX4_in_6 : decode cX4_in 6 = .ok (.iload_n 2, 1) := by decide +kernel
theorem dX4_in_7 : decode cX4_in 7 = .ok (.if_icmp .gt 7, 3) := by decide +kernel
theorem dX4_in_10 : decode cX4_in 10 = .ok (.iconst 1, 1) := by decide +kernel
theorem dX4_in_11 : decode cX4_in 11 = .ok (.goto 4, 3) := by decide +kernel
theorem dX4_in_14 : decode cX4_in 14 = .ok (.iconst 0, 1) := by decide +kernel
theorem dX4_in_15 : decode cX4_in 15 = .ok (.ireturn, 1) := by decide +kernel
theorem dX4_error_0 : decode cX4_error 0 = .ok (.aload_n 0, 1) := by decide +kernel
theorem dX4_error_1 : decode cX4_error 1 = .ok (.getfield 16, 3) := by decide +kernel
theorem dX4_error_4 : decode cX4_error 4 = .ok (.sipush (-10002), 3) := by decide +kernel
theorem dX4_error_7 : decode cX4_error 7 = .ok (.iload_n 1, 1) := by decide +kernel
theorem dX4_error_8 : decode cX4_error 8 = .ok (.isub, 1) := by decide +kernel
theorem dX4_error_9 : decode cX4_error 9 = .ok (.dup2, 1) := by decide +kernel
theorem dX4_error_10 : decode cX4_error 10 = .ok (.iaload, 1) := by decide +kernel
theorem dX4_error_11 : decode cX4_error 11 = .ok (.iconst 1, 1) := by decide +kernel
theorem dX4_error_12 : decode cX4_error 12 = .ok (.iadd, 1) := by decide +kernel
theorem dX4_error_13 : decode cX4_error 13 = .ok (.iastore, 1) := by decide +kernel
theorem dX4_error_14 : decode cX4_error 14 = .ok (.iload_n 1, 1) := by decide +kernel
theorem dX4_error_15 : decode cX4_error 15 = .ok (.ireturn, 1) := by decide +kernel
theorem dX4_at_0 : decode cX4_at 0 = .ok (.bipush 17, 2) := by decide +kernel
theorem dX4_at_2 : decode cX4_at 2 = .ok (.bipush 10, 2) := by decide +kernel
theorem dX4_at_4 : decode cX4_at 4 = .ok (.iload_n 0, 1) := by decide +kernel
theorem dX4_at_5 : decode cX4_at 5 = .ok (.imul, 1) := by decide +kernel
theorem dX4_at_6 : decode cX4_at 6 = .ok (.iadd, 1) := by decide +kernel
theorem dX4_at_7 : decode cX4_at 7 = .ok (.iload_n 1, 1) := by decide +kernel
theorem dX4_at_8 : decode cX4_at 8 = .ok (.iadd, 1) := by decide +kernel
theorem dX4_at_9 : decode cX4_at 9 = .ok (.ireturn, 1) := by decide +kernel
theorem dX4_get_0 : decode cX4_get 0 = .ok (.aload_n 0, 1) := by decide +kernel
theorem dX4_get_1 : decode cX4_get 1 = .ok (.getfield 7, 3) := by decide +kernel
theorem dX4_get_4 : decode cX4_get 4 = .ok (.iload_n 1, 1) := by decide +kernel
theorem dX4_get_5 : decode cX4_get 5 = .ok (.iload_n 2, 1) := by decide +kernel
theorem dX4_get_6 : decode cX4_get 6 = .ok (.invokestatic 38, 3) := by decide +kernel
theorem dX4_get_9 : decode cX4_get 9 = .ok (.iaload, 1) := by decide +kernel
theorem dX4_get_10 : decode cX4_get 10 = .ok (.ireturn, 1) := by decide +kernel
theorem dX4_isCell_0 : decode cX4_isCell 0 = .ok (.iload_n 1, 1) := by decide +kernel
theorem dX4_isCell_1 : decode cX4_isCell 1 = .ok (.iconst 0, 1) := by decide +kernel
theorem dX4_isCell_2 : decode cX4_isCell 2 = .ok (.aload_n 0, 1) := by decide +kernel
theorem dX4_isCell_3 : decode cX4_isCell 3 = .ok (.getfield 7, 3) := by decide +kernel
theorem dX4_isCell_6 : decode cX4_isCell 6 = .ok (.iconst 0, 1) := by decide +kernel
theorem dX4_isCell_7 : decode cX4_isCell 7 = .ok (.iaload, 1) := by decide +kernel
theorem dX4_isCell_8 : decode cX4_isCell 8 = .ok (.iconst 1, 1) := by decide +kernel
theorem dX4_isCell_9 : decode cX4_isCell 9 = .ok (.isub, 1) := by decide +kernel
theorem dX4_isCell_10 : decode cX4_isCell 10 = .ok (.invokestatic 42, 3) := by decide +kernel
theorem dX4_isCell_13 : decode cX4_isCell 13 = .ok (.ireturn, 1) := by decide +kernel
theorem dX4_save_0 : decode cX4_save 0 = .ok (.aload_n 0, 1) := by decide +kernel
theorem dX4_save_1 : decode cX4_save 1 = .ok (.getfield 46, 3) := by decide +kernel
theorem dX4_save_4 : decode cX4_save 4 = .ok (.iconst 4, 1) := by decide +kernel
theorem dX4_save_5 : decode cX4_save 5 = .ok (.if_icmp .ne 44, 3) := by decide +kernel
theorem dX4_save_8 : decode cX4_save 8 = .ok (.iconst 0, 1) := by decide +kernel
theorem dX4_save_9 : decode cX4_save 9 = .ok (.istore_n 1, 1) := by decide +kernel
theorem dX4_save_10 : decode cX4_save 10 = .ok (.iload_n 1, 1) := by decide +kernel
theorem dX4_save_11 : decode cX4_save 11 = .ok (.sipush 411, 3) := by decide +kernel
theorem dX4_save_14 : decode cX4_save 14 = .ok (.if_icmp .ge 25, 3) := by decide +kernel
theorem dX4_save_17 : decode cX4_save 17 = .ok (.aload_n 0, 1) := by decide +kernel
theorem dX4_save_18 : decode cX4_save 18 = .ok (.getfield 13, 3) := by decide +kernel
theorem dX4_save_21 : decode cX4_save 21 = .ok (.iload_n 1, 1) := by decide +kernel
theorem dX4_save_22 : decode cX4_save 22 = .ok (.aload_n 0, 1) := by decide +kernel
theorem dX4_save_23 : decode cX4_save 23 = .ok (.getfield 13, 3) := by decide +kernel
theorem dX4_save_26 : decode cX4_save 26 = .ok (.iload_n 1, 1) := by decide +kernel
theorem dX4_save_27 : decode cX4_save 27 = .ok (.sipush 137, 3) := by decide +kernel
theorem dX4_save_30 : decode cX4_save 30 = .ok (.iadd, 1) := by decide +kernel
theorem dX4_save_31 : decode cX4_save 31 = .ok (.iaload, 1) := by decide +kernel
theorem dX4_save_32 : decode cX4_save 32 = .ok (.iastore, 1) := by decide +kernel
theorem dX4_save_33 : decode cX4_save 33 = .ok (.iinc 1 1, 3) := by decide +kernel
theorem dX4_save_36 : decode cX4_save 36 = .ok (.goto (-26), 3) := by decide +kernel
theorem dX4_save_39 : decode cX4_save 39 = .ok (.aload_n 0, 1) := by decide +kernel
theorem dX4_save_40 : decode cX4_save 40 = .ok (.dup, 1) := by decide +kernel
theorem dX4_save_41 : decode cX4_save 41 = .ok (.getfield 46, 3) := by decide +kernel
theorem dX4_save_44 : decode cX4_save 44 = .ok (.iconst 1, 1) := by decide +kernel
theorem dX4_save_45 : decode cX4_save 45 = .ok (.isub, 1) := by decide +kernel
theorem dX4_save_46 : decode cX4_save 46 = .ok (.putfield 46, 3) := by decide +kernel
theorem dX4_save_49 : decode cX4_save 49 = .ok (.iconst 0, 1) := by decide +kernel
theorem dX4_save_50 : decode cX4_save 50 = .ok (.istore_n 1, 1) := by decide +kernel
theorem dX4_save_51 : decode cX4_save 51 = .ok (.iload_n 1, 1) := by decide +kernel
theorem dX4_save_52 : decode cX4_save 52 = .ok (.sipush 137, 3) := by decide +kernel
theorem dX4_save_55 : decode cX4_save 55 = .ok (.if_icmp .ge 30, 3) := by decide +kernel
theorem dX4_save_58 : decode cX4_save 58 = .ok (.aload_n 0, 1) := by decide +kernel
theorem dX4_save_59 : decode cX4_save 59 = .ok (.getfield 13, 3) := by decide +kernel
theorem dX4_save_62 : decode cX4_save 62 = .ok (.sipush 137, 3) := by decide +kernel
theorem dX4_save_65 : decode cX4_save 65 = .ok (.aload_n 0, 1) := by decide +kernel
theorem dX4_save_66 : decode cX4_save 66 = .ok (.getfield 46, 3) := by decide +kernel
theorem dX4_save_69 : decode cX4_save 69 = .ok (.imul, 1) := by decide +kernel
theorem dX4_save_70 : decode cX4_save 70 = .ok (.iload_n 1, 1) := by decide +kernel
theorem dX4_save_71 : decode cX4_save 71 = .ok (.iadd, 1) := by decide +kernel
theorem dX4_save_72 : decode cX4_save 72 = .ok (.aload_n 0, 1) := by decide +kernel
theorem dX4_save_73 : decode cX4_save 73 = .ok (.getfield 7, 3) := by decide +kernel
theorem dX4_save_76 : decode cX4_save 76 = .ok (.iload_n 1, 1) := by decide +kernel
theorem dX4_save_77 : decode cX4_save 77 = .ok (.iaload, 1) := by decide +kernel
theorem dX4_save_78 : decode cX4_save 78 = .ok (.iastore, 1) := by decide +kernel
theorem dX4_save_79 : decode cX4_save 79 = .ok (.iinc 1 1, 3) := by decide +kernel
theorem dX4_save_82 : decode cX4_save 82 = .ok (.goto (-31), 3) := by decide +kernel
theorem dX4_save_85 : decode cX4_save 85 = .ok (.aload_n 0, 1) := by decide +kernel
theorem dX4_save_86 : decode cX4_save 86 = .ok (.dup, 1) := by decide +kernel
theorem dX4_save_87 : decode cX4_save 87 = .ok (.getfield 46, 3) := by decide +kernel
theorem dX4_save_90 : decode cX4_save 90 = .ok (.iconst 1, 1) := by decide +kernel
theorem dX4_save_91 : decode cX4_save 91 = .ok (.iadd, 1) := by decide +kernel
theorem dX4_save_92 : decode cX4_save 92 = .ok (.putfield 46, 3) := by decide +kernel
theorem dX4_save_95 : decode cX4_save 95 = .ok (.aload_n 0, 1) := by decide +kernel
theorem dX4_save_96 : decode cX4_save 96 = .ok (.getfield 7, 3) := by decide +kernel
theorem dX4_save_99 : decode cX4_save 99 = .ok (.iconst 4, 1) := by decide +kernel
theorem dX4_save_100 : decode cX4_save 100 = .ok (.iconst 0, 1) := by decide +kernel
theorem dX4_save_101 : decode cX4_save 101 = .ok (.iastore, 1) := by decide +kernel
theorem dX4_save_102 : decode cX4_save 102 = .ok (.return_, 1) := by decide +kernel
theorem dX4_definersOf_0 : decode cX4_definersOf 0 = .ok (.iconst 0, 1) := by decide +kernel
theorem dX4_definersOf_1 : decode cX4_definersOf 1 = .ok (.istore_n 2, 1) := by decide +kernel
theorem dX4_definersOf_2 : decode cX4_definersOf 2 = .ok (.iconst 0, 1) := by decide +kernel
theorem dX4_definersOf_3 : decode cX4_definersOf 3 = .ok (.istore_n 3, 1) := by decide +kernel
theorem dX4_definersOf_4 : decode cX4_definersOf 4 = .ok (.iload_n 3, 1) := by decide +kernel
theorem dX4_definersOf_5 : decode cX4_definersOf 5 = .ok (.aload_n 0, 1) := by decide +kernel
theorem dX4_definersOf_6 : decode cX4_definersOf 6 = .ok (.getfield 7, 3) := by decide +kernel
theorem dX4_definersOf_9 : decode cX4_definersOf 9 = .ok (.iconst 0, 1) := by decide +kernel
theorem dX4_definersOf_10 : decode cX4_definersOf 10 = .ok (.iaload, 1) := by decide +kernel
theorem dX4_definersOf_11 : decode cX4_definersOf 11 = .ok (.if_icmp .ge 29, 3) := by decide +kernel
theorem dX4_definersOf_14 : decode cX4_definersOf 14 = .ok (.iload_n 2, 1) := by decide +kernel
theorem dX4_definersOf_15 : decode cX4_definersOf 15 = .ok (.aload_n 0, 1) := by decide +kernel
theorem dX4_definersOf_16 : decode cX4_definersOf 16 = .ok (.iload_n 3, 1) := by decide +kernel
theorem dX4_definersOf_17 : decode cX4_definersOf 17 = .ok (.iconst 0, 1) := by decide +kernel
theorem dX4_definersOf_18 : decode cX4_definersOf 18 = .ok (.invokevirtual 50, 3) := by decide +kernel
theorem dX4_definersOf_21 : decode cX4_definersOf 21 = .ok (.iload_n 1, 1) := by decide +kernel
theorem dX4_definersOf_22 : decode cX4_definersOf 22 = .ok (.if_icmp .ne 9, 3) := by decide +kernel
theorem dX4_definersOf_25 : decode cX4_definersOf 25 = .ok (.iconst 1, 1) := by decide +kernel
theorem dX4_definersOf_26 : decode cX4_definersOf 26 = .ok (.iload_n 3, 1) := by decide +kernel
theorem dX4_definersOf_27 : decode cX4_definersOf 27 = .ok (.ishl, 1) := by decide +kernel
theorem dX4_definersOf_28 : decode cX4_definersOf 28 = .ok (.goto 4, 3) := by decide +kernel
theorem dX4_definersOf_31 : decode cX4_definersOf 31 = .ok (.iconst 0, 1) := by decide +kernel
theorem dX4_definersOf_32 : decode cX4_definersOf 32 = .ok (.ior, 1) := by decide +kernel
theorem dX4_definersOf_33 : decode cX4_definersOf 33 = .ok (.istore_n 2, 1) := by decide +kernel
theorem dX4_definersOf_34 : decode cX4_definersOf 34 = .ok (.iinc 3 1, 3) := by decide +kernel
theorem dX4_definersOf_37 : decode cX4_definersOf 37 = .ok (.goto (-33), 3) := by decide +kernel
theorem dX4_definersOf_40 : decode cX4_definersOf 40 = .ok (.iload_n 2, 1) := by decide +kernel
theorem dX4_definersOf_41 : decode cX4_definersOf 41 = .ok (.ireturn, 1) := by decide +kernel
theorem dX4_only_0 : decode cX4_only 0 = .ok (.iconst 0, 1) := by decide +kernel
theorem dX4_only_1 : decode cX4_only 1 = .ok (.istore_n 1, 1) := by decide +kernel
theorem dX4_only_2 : decode cX4_only 2 = .ok (.iload_n 1, 1) := by decide +kernel
theorem dX4_only_3 : decode cX4_only 3 = .ok (.bipush 12, 2) := by decide +kernel
theorem dX4_only_5 : decode cX4_only 5 = .ok (.if_icmp .ge 18, 3) := by decide +kernel
theorem dX4_only_8 : decode cX4_only 8 = .ok (.iload_n 0, 1) := by decide +kernel
theorem dX4_only_9 : decode cX4_only 9 = .ok (.iconst 1, 1) := by decide +kernel
theorem dX4_only_10 : decode cX4_only 10 = .ok (.iload_n 1, 1) := by decide +kernel
theorem dX4_only_11 : decode cX4_only 11 = .ok (.ishl, 1) := by decide +kernel
theorem dX4_only_12 : decode cX4_only 12 = .ok (.if_icmp .ne 5, 3) := by decide +kernel
theorem dX4_only_15 : decode cX4_only 15 = .ok (.iload_n 1, 1) := by decide +kernel
theorem dX4_only_16 : decode cX4_only 16 = .ok (.ireturn, 1) := by decide +kernel
theorem dX4_only_17 : decode cX4_only 17 = .ok (.iinc 1 1, 3) := by decide +kernel
theorem dX4_only_20 : decode cX4_only 20 = .ok (.goto (-18), 3) := by decide +kernel
theorem dX4_only_23 : decode cX4_only 23 = .ok (.sipush (-10001), 3) := by decide +kernel
theorem dX4_only_26 : decode cX4_only 26 = .ok (.ireturn, 1) := by decide +kernel
theorem dX4_source_0 : decode cX4_source 0 = .ok (.iload_n 1, 1) := by decide +kernel
theorem dX4_source_1 : decode cX4_source 1 = .ok (.bipush 100, 2) := by decide +kernel
theorem dX4_source_3 : decode cX4_source 3 = .ok (.if_icmp .ge 9, 3) := by decide +kernel
theorem dX4_source_6 : decode cX4_source 6 = .ok (.sipush (-10001), 3) := by decide +kernel
theorem dX4_source_9 : decode cX4_source 9 = .ok (.goto 14, 3) := by decide +kernel
theorem dX4_source_12 : decode cX4_source 12 = .ok (.aload_n 0, 1) := by decide +kernel
theorem dX4_source_13 : decode cX4_source 13 = .ok (.iload_n 1, 1) := by decide +kernel
theorem dX4_source_14 : decode cX4_source 14 = .ok (.bipush 100, 2) := by decide +kernel
theorem dX4_source_16 : decode cX4_source 16 = .ok (.isub, 1) := by decide +kernel
theorem dX4_source_17 : decode cX4_source 17 = .ok (.invokevirtual 53, 3) := by decide +kernel
theorem dX4_source_20 : decode cX4_source 20 = .ok (.invokestatic 57, 3) := by decide +kernel
theorem dX4_source_23 : decode cX4_source 23 = .ok (.ireturn, 1) := by decide +kernel
theorem dX4_isUndefined_0 : decode cX4_isUndefined 0 = .ok (.iload_n 1, 1) := by decide +kernel
theorem dX4_isUndefined_1 : decode cX4_isUndefined 1 = .ok (.bipush 99, 2) := by decide +kernel
theorem dX4_isUndefined_3 : decode cX4_isUndefined 3 = .ok (.if_icmp .le 18, 3) := by decide +kernel
theorem dX4_isUndefined_6 : decode cX4_isUndefined 6 = .ok (.aload_n 0, 1) := by decide +kernel
theorem dX4_isUndefined_7 : decode cX4_isUndefined 7 = .ok (.iload_n 1, 1) := by decide +kernel
theorem dX4_isUndefined_8 : decode cX4_isUndefined 8 = .ok (.bipush 100, 2) := by decide +kernel
theorem dX4_isUndefined_10 : decode cX4_isUndefined 10 = .ok (.isub, 1) := by decide +kernel
theorem dX4_isUndefined_11 : decode cX4_isUndefined 11 = .ok (.invokevirtual 53, 3) := by decide +kernel
theorem dX4_isUndefined_14 : decode cX4_isUndefined 14 = .ok (.ifCond .ne 7, 3) := by decide +kernel
theorem dX4_isUndefined_17 : decode cX4_isUndefined 17 = .ok (.iconst 1, 1) := by decide +kernel
theorem dX4_isUndefined_18 : decode cX4_isUndefined 18 = .ok (.goto 4, 3) := by decide +kernel
theorem dX4_isUndefined_21 : decode cX4_isUndefined 21 = .ok (.iconst 0, 1) := by decide +kernel
theorem dX4_isUndefined_22 : decode cX4_isUndefined 22 = .ok (.ireturn, 1) := by decide +kernel
theorem dX4_isBad_0 : decode cX4_isBad 0 = .ok (.iload_n 1, 1) := by decide +kernel
theorem dX4_isBad_1 : decode cX4_isBad 1 = .ok (.bipush 100, 2) := by decide +kernel
theorem dX4_isBad_3 : decode cX4_isBad 3 = .ok (.if_icmp .ge 7, 3) := by decide +kernel
theorem dX4_isBad_6 : decode cX4_isBad 6 = .ok (.iconst 0, 1) := by decide +kernel
theorem dX4_isBad_7 : decode cX4_isBad 7 = .ok (.goto 11, 3) := by decide +kernel
theorem dX4_isBad_10 : decode cX4_isBad 10 = .ok (.aload_n 0, 1) := by decide +kernel
theorem dX4_isBad_11 : decode cX4_isBad 11 = .ok (.iload_n 1, 1) := by decide +kernel
theorem dX4_isBad_12 : decode cX4_isBad 12 = .ok (.bipush 100, 2) := by decide +kernel
theorem dX4_isBad_14 : decode cX4_isBad 14 = .ok (.isub, 1) := by decide +kernel
theorem dX4_isBad_15 : decode cX4_isBad 15 = .ok (.invokevirtual 53, 3) := by decide +kernel
theorem dX4_isBad_18 : decode cX4_isBad 18 = .ok (.istore_n 2, 1) := by decide +kernel
theorem dX4_isBad_19 : decode cX4_isBad 19 = .ok (.iconst 0, 1) := by decide +kernel
theorem dX4_isBad_20 : decode cX4_isBad 20 = .ok (.istore_n 3, 1) := by decide +kernel
theorem dX4_isBad_21 : decode cX4_isBad 21 = .ok (.iload_n 3, 1) := by decide +kernel
theorem dX4_isBad_22 : decode cX4_isBad 22 = .ok (.aload_n 0, 1) := by decide +kernel
theorem dX4_isBad_23 : decode cX4_isBad 23 = .ok (.getfield 7, 3) := by decide +kernel
theorem dX4_isBad_26 : decode cX4_isBad 26 = .ok (.iconst 0, 1) := by decide +kernel
theorem dX4_isBad_27 : decode cX4_isBad 27 = .ok (.iaload, 1) := by decide +kernel
theorem dX4_isBad_28 : decode cX4_isBad 28 = .ok (.if_icmp .ge 29, 3) := by decide +kernel
theorem dX4_isBad_31 : decode cX4_isBad 31 = .ok (.iload_n 2, 1) := by decide +kernel
theorem dX4_isBad_32 : decode cX4_isBad 32 = .ok (.iload_n 3, 1) := by decide +kernel
theorem dX4_isBad_33 : decode cX4_isBad 33 = .ok (.ishr, 1) := by decide +kernel
theorem dX4_isBad_34 : decode cX4_isBad 34 = .ok (.iconst 1, 1) := by decide +kernel
theorem dX4_isBad_35 : decode cX4_isBad 35 = .ok (.iand, 1) := by decide +kernel
theorem dX4_isBad_36 : decode cX4_isBad 36 = .ok (.iconst 1, 1) := by decide +kernel
theorem dX4_isBad_37 : decode cX4_isBad 37 = .ok (.if_icmp .ne 14, 3) := by decide +kernel
theorem dX4_isBad_40 : decode cX4_isBad 40 = .ok (.aload_n 0, 1) := by decide +kernel
theorem dX4_isBad_41 : decode cX4_isBad 41 = .ok (.getfield 22, 3) := by decide +kernel
theorem dX4_isBad_44 : decode cX4_isBad 44 = .ok (.iload_n 3, 1) := by decide +kernel
theorem dX4_isBad_45 : decode cX4_isBad 45 = .ok (.iaload, 1) := by decide +kernel
theorem dX4_isBad_46 : decode cX4_isBad 46 = .ok (.ifCond .eq 5, 3) := by decide +kernel
theorem dX4_isBad_49 : decode cX4_isBad 49 = .ok (.iconst 1, 1) := by decide +kernel
theorem dX4_isBad_50 : decode cX4_isBad 50 = .ok (.ireturn, 1) := by decide +kernel
theorem dX4_isBad_51 : decode cX4_isBad 51 = .ok (.iinc 3 1, 3) := by decide +kernel
theorem dX4_isBad_54 : decode cX4_isBad 54 = .ok (.goto (-33), 3) := by decide +kernel
end
section
theorem dX4_isBad_57 : decode cX4_isBad 57 = .ok (.iconst 0, 1) := by decide +kernel
theorem dX4_isBad_58 : decode cX4_isBad 58 = .ok (.ireturn, 1) := by decide +kernel
theorem dX4_deriveDependencies_0 : decode cX4_deriveDependencies 0 = .ok (.iconst 0, 1) := by decide +kernel
theorem dX4_deriveDependencies_1 : decode cX4_deriveDependencies 1 = .ok (.istore_n 1, 1) := by decide +kernel
theorem dX4_deriveDependencies_2 : decode cX4_deriveDependencies 2 = .ok (.iload_n 1, 1) := by decide +kernel
theorem dX4_deriveDependencies_3 : decode cX4_deriveDependencies 3 = .ok (.aload_n 0, 1) := by decide +kernel
theorem dX4_deriveDependencies_4 : decode cX4_deriveDependencies 4 = .ok (.getfield 7, 3) := by decide +kernel
theorem dX4_deriveDependencies_7 : decode cX4_deriveDependencies 7 = .ok (.iconst 0, 1) := by decide +kernel
theorem dX4_deriveDependencies_8 : decode cX4_deriveDependencies 8 = .ok (.iaload, 1) := by decide +kernel
theorem dX4_deriveDependencies_9 : decode cX4_deriveDependencies 9 = .ok (.if_icmp .ge 78, 3) := by decide +kernel
theorem dX4_deriveDependencies_12 : decode cX4_deriveDependencies 12 = .ok (.aload_n 0, 1) := by decide +kernel
theorem dX4_deriveDependencies_13 : decode cX4_deriveDependencies 13 = .ok (.aload_n 0, 1) := by decide +kernel
theorem dX4_deriveDependencies_14 : decode cX4_deriveDependencies 14 = .ok (.iload_n 1, 1) := by decide +kernel
theorem dX4_deriveDependencies_15 : decode cX4_deriveDependencies 15 = .ok (.iconst 2, 1) := by decide +kernel
theorem dX4_deriveDependencies_16 : decode cX4_deriveDependencies 16 = .ok (.invokevirtual 50, 3) := by decide +kernel
theorem dX4_deriveDependencies_19 : decode cX4_deriveDependencies 19 = .ok (.invokevirtual 60, 3) := by decide +kernel
theorem dX4_deriveDependencies_22 : decode cX4_deriveDependencies 22 = .ok (.istore_n 2, 1) := by decide +kernel
theorem dX4_deriveDependencies_23 : decode cX4_deriveDependencies 23 = .ok (.aload_n 0, 1) := by decide +kernel
theorem dX4_deriveDependencies_24 : decode cX4_deriveDependencies 24 = .ok (.aload_n 0, 1) := by decide +kernel
theorem dX4_deriveDependencies_25 : decode cX4_deriveDependencies 25 = .ok (.iload_n 1, 1) := by decide +kernel
theorem dX4_deriveDependencies_26 : decode cX4_deriveDependencies 26 = .ok (.iconst 3, 1) := by decide +kernel
theorem dX4_deriveDependencies_27 : decode cX4_deriveDependencies 27 = .ok (.invokevirtual 50, 3) := by decide +kernel
theorem dX4_deriveDependencies_30 : decode cX4_deriveDependencies 30 = .ok (.invokevirtual 60, 3) := by decide +kernel
theorem dX4_deriveDependencies_33 : decode cX4_deriveDependencies 33 = .ok (.istore_n 3, 1) := by decide +kernel
theorem dX4_deriveDependencies_34 : decode cX4_deriveDependencies 34 = .ok (.aload_n 0, 1) := by decide +kernel
theorem dX4_deriveDependencies_35 : decode cX4_deriveDependencies 35 = .ok (.getfield 19, 3) := by decide +kernel
theorem dX4_deriveDependencies_38 : decode cX4_deriveDependencies 38 = .ok (.iload_n 1, 1) := by decide +kernel
theorem dX4_deriveDependencies_39 : decode cX4_deriveDependencies 39 = .ok (.iload_n 2, 1) := by decide +kernel
theorem dX4_deriveDependencies_40 : decode cX4_deriveDependencies 40 = .ok (.sipush (-10001), 3) := by decide +kernel
theorem dX4_deriveDependencies_43 : decode cX4_deriveDependencies 43 = .ok (.if_icmp .ne 7, 3) := by decide +kernel
theorem dX4_deriveDependencies_46 : decode cX4_deriveDependencies 46 = .ok (.iconst 0, 1) := by decide +kernel
theorem dX4_deriveDependencies_47 : decode cX4_deriveDependencies 47 = .ok (.goto 6, 3) := by decide +kernel
theorem dX4_deriveDependencies_50 : decode cX4_deriveDependencies 50 = .ok (.iconst 1, 1) := by decide +kernel
theorem dX4_deriveDependencies_51 : decode cX4_deriveDependencies 51 = .ok (.iload_n 2, 1) := by decide +kernel
theorem dX4_deriveDependencies_52 : decode cX4_deriveDependencies 52 = .ok (.ishl, 1) := by decide +kernel
theorem dX4_deriveDependencies_53 : decode cX4_deriveDependencies 53 = .ok (.iload_n 3, 1) := by decide +kernel
theorem dX4_deriveDependencies_54 : decode cX4_deriveDependencies 54 = .ok (.sipush (-10001), 3) := by decide +kernel
theorem dX4_deriveDependencies_57 : decode cX4_deriveDependencies 57 = .ok (.if_icmp .ne 7, 3) := by decide +kernel
theorem dX4_deriveDependencies_60 : decode cX4_deriveDependencies 60 = .ok (.iconst 0, 1) := by decide +kernel
theorem dX4_deriveDependencies_61 : decode cX4_deriveDependencies 61 = .ok (.goto 6, 3) := by decide +kernel
theorem dX4_deriveDependencies_64 : decode cX4_deriveDependencies 64 = .ok (.iconst 1, 1) := by decide +kernel
theorem dX4_deriveDependencies_65 : decode cX4_deriveDependencies 65 = .ok (.iload_n 3, 1) := by decide +kernel
theorem dX4_deriveDependencies_66 : decode cX4_deriveDependencies 66 = .ok (.ishl, 1) := by decide +kernel
theorem dX4_deriveDependencies_67 : decode cX4_deriveDependencies 67 = .ok (.ior, 1) := by decide +kernel
theorem dX4_deriveDependencies_68 : decode cX4_deriveDependencies 68 = .ok (.iastore, 1) := by decide +kernel
theorem dX4_deriveDependencies_69 : decode cX4_deriveDependencies 69 = .ok (.aload_n 0, 1) := by decide +kernel
theorem dX4_deriveDependencies_70 : decode cX4_deriveDependencies 70 = .ok (.getfield 25, 3) := by decide +kernel
theorem dX4_deriveDependencies_73 : decode cX4_deriveDependencies 73 = .ok (.iload_n 1, 1) := by decide +kernel
theorem dX4_deriveDependencies_74 : decode cX4_deriveDependencies 74 = .ok (.aload_n 0, 1) := by decide +kernel
theorem dX4_deriveDependencies_75 : decode cX4_deriveDependencies 75 = .ok (.getfield 19, 3) := by decide +kernel
theorem dX4_deriveDependencies_78 : decode cX4_deriveDependencies 78 = .ok (.iload_n 1, 1) := by decide +kernel
theorem dX4_deriveDependencies_79 : decode cX4_deriveDependencies 79 = .ok (.iaload, 1) := by decide +kernel
theorem dX4_deriveDependencies_80 : decode cX4_deriveDependencies 80 = .ok (.iastore, 1) := by decide +kernel
theorem dX4_deriveDependencies_81 : decode cX4_deriveDependencies 81 = .ok (.iinc 1 1, 3) := by decide +kernel
theorem dX4_deriveDependencies_84 : decode cX4_deriveDependencies 84 = .ok (.goto (-82), 3) := by decide +kernel
theorem dX4_deriveDependencies_87 : decode cX4_deriveDependencies 87 = .ok (.iconst 0, 1) := by decide +kernel
theorem dX4_deriveDependencies_88 : decode cX4_deriveDependencies 88 = .ok (.istore_n 1, 1) := by decide +kernel
theorem dX4_deriveDependencies_89 : decode cX4_deriveDependencies 89 = .ok (.iload_n 1, 1) := by decide +kernel
theorem dX4_deriveDependencies_90 : decode cX4_deriveDependencies 90 = .ok (.aload_n 0, 1) := by decide +kernel
theorem dX4_deriveDependencies_91 : decode cX4_deriveDependencies 91 = .ok (.getfield 7, 3) := by decide +kernel
theorem dX4_deriveDependencies_94 : decode cX4_deriveDependencies 94 = .ok (.iconst 0, 1) := by decide +kernel
theorem dX4_deriveDependencies_95 : decode cX4_deriveDependencies 95 = .ok (.iaload, 1) := by decide +kernel
theorem dX4_deriveDependencies_96 : decode cX4_deriveDependencies 96 = .ok (.if_icmp .ge 78, 3) := by decide +kernel
theorem dX4_deriveDependencies_99 : decode cX4_deriveDependencies 99 = .ok (.iconst 0, 1) := by decide +kernel
theorem dX4_deriveDependencies_100 : decode cX4_deriveDependencies 100 = .ok (.istore_n 2, 1) := by decide +kernel
theorem dX4_deriveDependencies_101 : decode cX4_deriveDependencies 101 = .ok (.iload_n 2, 1) := by decide +kernel
theorem dX4_deriveDependencies_102 : decode cX4_deriveDependencies 102 = .ok (.aload_n 0, 1) := by decide +kernel
theorem dX4_deriveDependencies_103 : decode cX4_deriveDependencies 103 = .ok (.getfield 7, 3) := by decide +kernel
theorem dX4_deriveDependencies_106 : decode cX4_deriveDependencies 106 = .ok (.iconst 0, 1) := by decide +kernel
theorem dX4_deriveDependencies_107 : decode cX4_deriveDependencies 107 = .ok (.iaload, 1) := by decide +kernel
theorem dX4_deriveDependencies_108 : decode cX4_deriveDependencies 108 = .ok (.if_icmp .ge 60, 3) := by decide +kernel
theorem dX4_deriveDependencies_111 : decode cX4_deriveDependencies 111 = .ok (.iconst 0, 1) := by decide +kernel
theorem dX4_deriveDependencies_112 : decode cX4_deriveDependencies 112 = .ok (.istore_n 3, 1) := by decide +kernel
theorem dX4_deriveDependencies_113 : decode cX4_deriveDependencies 113 = .ok (.iload_n 3, 1) := by decide +kernel
theorem dX4_deriveDependencies_114 : decode cX4_deriveDependencies 114 = .ok (.aload_n 0, 1) := by decide +kernel
theorem dX4_deriveDependencies_115 : decode cX4_deriveDependencies 115 = .ok (.getfield 7, 3) := by decide +kernel
theorem dX4_deriveDependencies_118 : decode cX4_deriveDependencies 118 = .ok (.iconst 0, 1) := by decide +kernel
theorem dX4_deriveDependencies_119 : decode cX4_deriveDependencies 119 = .ok (.iaload, 1) := by decide +kernel
theorem dX4_deriveDependencies_120 : decode cX4_deriveDependencies 120 = .ok (.if_icmp .ge 42, 3) := by decide +kernel
theorem dX4_deriveDependencies_123 : decode cX4_deriveDependencies 123 = .ok (.aload_n 0, 1) := by decide +kernel
theorem dX4_deriveDependencies_124 : decode cX4_deriveDependencies 124 = .ok (.getfield 25, 3) := by decide +kernel
theorem dX4_deriveDependencies_127 : decode cX4_deriveDependencies 127 = .ok (.iload_n 2, 1) := by decide +kernel
theorem dX4_deriveDependencies_128 : decode cX4_deriveDependencies 128 = .ok (.dup2, 1) := by decide +kernel
theorem dX4_deriveDependencies_129 : decode cX4_deriveDependencies 129 = .ok (.iaload, 1) := by decide +kernel
theorem dX4_deriveDependencies_130 : decode cX4_deriveDependencies 130 = .ok (.aload_n 0, 1) := by decide +kernel
theorem dX4_deriveDependencies_131 : decode cX4_deriveDependencies 131 = .ok (.getfield 25, 3) := by decide +kernel
theorem dX4_deriveDependencies_134 : decode cX4_deriveDependencies 134 = .ok (.iload_n 2, 1) := by decide +kernel
theorem dX4_deriveDependencies_135 : decode cX4_deriveDependencies 135 = .ok (.iaload, 1) := by decide +kernel
theorem dX4_deriveDependencies_136 : decode cX4_deriveDependencies 136 = .ok (.iload_n 3, 1) := by decide +kernel
theorem dX4_deriveDependencies_137 : decode cX4_deriveDependencies 137 = .ok (.ishr, 1) := by decide +kernel
theorem dX4_deriveDependencies_138 : decode cX4_deriveDependencies 138 = .ok (.iconst 1, 1) := by decide +kernel
theorem dX4_deriveDependencies_139 : decode cX4_deriveDependencies 139 = .ok (.iand, 1) := by decide +kernel
theorem dX4_deriveDependencies_140 : decode cX4_deriveDependencies 140 = .ok (.iconst 1, 1) := by decide +kernel
theorem dX4_deriveDependencies_141 : decode cX4_deriveDependencies 141 = .ok (.if_icmp .ne 12, 3) := by decide +kernel
theorem dX4_deriveDependencies_144 : decode cX4_deriveDependencies 144 = .ok (.aload_n 0, 1) := by decide +kernel
theorem dX4_deriveDependencies_145 : decode cX4_deriveDependencies 145 = .ok (.getfield 25, 3) := by decide +kernel
theorem dX4_deriveDependencies_148 : decode cX4_deriveDependencies 148 = .ok (.iload_n 3, 1) := by decide +kernel
theorem dX4_deriveDependencies_149 : decode cX4_deriveDependencies 149 = .ok (.iaload, 1) := by decide +kernel
theorem dX4_deriveDependencies_150 : decode cX4_deriveDependencies 150 = .ok (.goto 4, 3) := by decide +kernel
theorem dX4_deriveDependencies_153 : decode cX4_deriveDependencies 153 = .ok (.iconst 0, 1) := by decide +kernel
theorem dX4_deriveDependencies_154 : decode cX4_deriveDependencies 154 = .ok (.ior, 1) := by decide +kernel
theorem dX4_deriveDependencies_155 : decode cX4_deriveDependencies 155 = .ok (.iastore, 1) := by decide +kernel
theorem dX4_deriveDependencies_156 : decode cX4_deriveDependencies 156 = .ok (.iinc 3 1, 3) := by decide +kernel
theorem dX4_deriveDependencies_159 : decode cX4_deriveDependencies 159 = .ok (.goto (-46), 3) := by decide +kernel
theorem dX4_deriveDependencies_162 : decode cX4_deriveDependencies 162 = .ok (.iinc 2 1, 3) := by decide +kernel
theorem dX4_deriveDependencies_165 : decode cX4_deriveDependencies 165 = .ok (.goto (-64), 3) := by decide +kernel
theorem dX4_deriveDependencies_168 : decode cX4_deriveDependencies 168 = .ok (.iinc 1 1, 3) := by decide +kernel
theorem dX4_deriveDependencies_171 : decode cX4_deriveDependencies 171 = .ok (.goto (-82), 3) := by decide +kernel
theorem dX4_deriveDependencies_174 : decode cX4_deriveDependencies 174 = .ok (.return_, 1) := by decide +kernel
theorem dX4_deriveErrors_0 : decode cX4_deriveErrors 0 = .ok (.iconst 0, 1) := by decide +kernel
theorem dX4_deriveErrors_1 : decode cX4_deriveErrors 1 = .ok (.istore_n 1, 1) := by decide +kernel
theorem dX4_deriveErrors_2 : decode cX4_deriveErrors 2 = .ok (.iload_n 1, 1) := by decide +kernel
theorem dX4_deriveErrors_3 : decode cX4_deriveErrors 3 = .ok (.aload_n 0, 1) := by decide +kernel
theorem dX4_deriveErrors_4 : decode cX4_deriveErrors 4 = .ok (.getfield 7, 3) := by decide +kernel
theorem dX4_deriveErrors_7 : decode cX4_deriveErrors 7 = .ok (.iconst 0, 1) := by decide +kernel
theorem dX4_deriveErrors_8 : decode cX4_deriveErrors 8 = .ok (.iaload, 1) := by decide +kernel
theorem dX4_deriveErrors_9 : decode cX4_deriveErrors 9 = .ok (.if_icmp .ge 104, 3) := by decide +kernel
theorem dX4_deriveErrors_12 : decode cX4_deriveErrors 12 = .ok (.aload_n 0, 1) := by decide +kernel
theorem dX4_deriveErrors_13 : decode cX4_deriveErrors 13 = .ok (.aload_n 0, 1) := by decide +kernel
theorem dX4_deriveErrors_14 : decode cX4_deriveErrors 14 = .ok (.iload_n 1, 1) := by decide +kernel
theorem dX4_deriveErrors_15 : decode cX4_deriveErrors 15 = .ok (.iconst 0, 1) := by decide +kernel
theorem dX4_deriveErrors_16 : decode cX4_deriveErrors 16 = .ok (.invokevirtual 50, 3) := by decide +kernel
theorem dX4_deriveErrors_19 : decode cX4_deriveErrors 19 = .ok (.invokevirtual 53, 3) := by decide +kernel
theorem dX4_deriveErrors_22 : decode cX4_deriveErrors 22 = .ok (.iconst 1, 1) := by decide +kernel
theorem dX4_deriveErrors_23 : decode cX4_deriveErrors 23 = .ok (.iload_n 1, 1) := by decide +kernel
theorem dX4_deriveErrors_24 : decode cX4_deriveErrors 24 = .ok (.ishl, 1) := by decide +kernel
theorem dX4_deriveErrors_25 : decode cX4_deriveErrors 25 = .ok (.if_icmp .eq 7, 3) := by decide +kernel
theorem dX4_deriveErrors_28 : decode cX4_deriveErrors 28 = .ok (.iconst 1, 1) := by decide +kernel
theorem dX4_deriveErrors_29 : decode cX4_deriveErrors 29 = .ok (.goto 4, 3) := by decide +kernel
theorem dX4_deriveErrors_32 : decode cX4_deriveErrors 32 = .ok (.iconst 0, 1) := by decide +kernel
theorem dX4_deriveErrors_33 : decode cX4_deriveErrors 33 = .ok (.istore_n 2, 1) := by decide +kernel
theorem dX4_deriveErrors_34 : decode cX4_deriveErrors 34 = .ok (.aload_n 0, 1) := by decide +kernel
theorem dX4_deriveErrors_35 : decode cX4_deriveErrors 35 = .ok (.aload_n 0, 1) := by decide +kernel
theorem dX4_deriveErrors_36 : decode cX4_deriveErrors 36 = .ok (.iload_n 1, 1) := by decide +kernel
theorem dX4_deriveErrors_37 : decode cX4_deriveErrors 37 = .ok (.iconst 2, 1) := by decide +kernel
theorem dX4_deriveErrors_38 : decode cX4_deriveErrors 38 = .ok (.invokevirtual 50, 3) := by decide +kernel
theorem dX4_deriveErrors_41 : decode cX4_deriveErrors 41 = .ok (.invokevirtual 63, 3) := by decide +kernel
theorem dX4_deriveErrors_44 : decode cX4_deriveErrors 44 = .ok (.ifCond .ne 16, 3) := by decide +kernel
theorem dX4_deriveErrors_47 : decode cX4_deriveErrors 47 = .ok (.aload_n 0, 1) := by decide +kernel
theorem dX4_deriveErrors_48 : decode cX4_deriveErrors 48 = .ok (.aload_n 0, 1) := by decide +kernel
theorem dX4_deriveErrors_49 : decode cX4_deriveErrors 49 = .ok (.iload_n 1, 1) := by decide +kernel
theorem dX4_deriveErrors_50 : decode cX4_deriveErrors 50 = .ok (.iconst 3, 1) := by decide +kernel
theorem dX4_deriveErrors_51 : decode cX4_deriveErrors 51 = .ok (.invokevirtual 50, 3) := by decide +kernel
theorem dX4_deriveErrors_54 : decode cX4_deriveErrors 54 = .ok (.invokevirtual 63, 3) := by decide +kernel
theorem dX4_deriveErrors_57 : decode cX4_deriveErrors 57 = .ok (.ifCond .eq 7, 3) := by decide +kernel
theorem dX4_deriveErrors_60 : decode cX4_deriveErrors 60 = .ok (.iconst 1, 1) := by decide +kernel
theorem dX4_deriveErrors_61 : decode cX4_deriveErrors 61 = .ok (.goto 4, 3) := by decide +kernel
theorem dX4_deriveErrors_64 : decode cX4_deriveErrors 64 = .ok (.iconst 0, 1) := by decide +kernel
theorem dX4_deriveErrors_65 : decode cX4_deriveErrors 65 = .ok (.istore_n 3, 1) := by decide +kernel
theorem dX4_deriveErrors_66 : decode cX4_deriveErrors 66 = .ok (.aload_n 0, 1) := by decide +kernel
theorem dX4_deriveErrors_67 : decode cX4_deriveErrors 67 = .ok (.getfield 22, 3) := by decide +kernel
theorem dX4_deriveErrors_70 : decode cX4_deriveErrors 70 = .ok (.iload_n 1, 1) := by decide +kernel
theorem dX4_deriveErrors_71 : decode cX4_deriveErrors 71 = .ok (.iload_n 2, 1) := by decide +kernel
theorem dX4_deriveErrors_72 : decode cX4_deriveErrors 72 = .ok (.ifCond .eq 7, 3) := by decide +kernel
theorem dX4_deriveErrors_75 : decode cX4_deriveErrors 75 = .ok (.iconst 2, 1) := by decide +kernel
theorem dX4_deriveErrors_76 : decode cX4_deriveErrors 76 = .ok (.goto 30, 3) := by decide +kernel
theorem dX4_deriveErrors_79 : decode cX4_deriveErrors 79 = .ok (.aload_n 0, 1) := by decide +kernel
theorem dX4_deriveErrors_80 : decode cX4_deriveErrors 80 = .ok (.getfield 25, 3) := by decide +kernel
theorem dX4_deriveErrors_83 : decode cX4_deriveErrors 83 = .ok (.iload_n 1, 1) := by decide +kernel
theorem dX4_deriveErrors_84 : decode cX4_deriveErrors 84 = .ok (.iaload, 1) := by decide +kernel
theorem dX4_deriveErrors_85 : decode cX4_deriveErrors 85 = .ok (.iload_n 1, 1) := by decide +kernel
theorem dX4_deriveErrors_86 : decode cX4_deriveErrors 86 = .ok (.ishr, 1) := by decide +kernel
theorem dX4_deriveErrors_87 : decode cX4_deriveErrors 87 = .ok (.iconst 1, 1) := by decide +kernel
theorem dX4_deriveErrors_88 : decode cX4_deriveErrors 88 = .ok (.iand, 1) := by decide +kernel
theorem dX4_deriveErrors_89 : decode cX4_deriveErrors 89 = .ok (.iconst 1, 1) := by decide +kernel
theorem dX4_deriveErrors_90 : decode cX4_deriveErrors 90 = .ok (.if_icmp .ne 7, 3) := by decide +kernel
theorem dX4_deriveErrors_93 : decode cX4_deriveErrors 93 = .ok (.iconst 3, 1) := by decide +kernel
theorem dX4_deriveErrors_94 : decode cX4_deriveErrors 94 = .ok (.goto 12, 3) := by decide +kernel
theorem dX4_deriveErrors_97 : decode cX4_deriveErrors 97 = .ok (.iload_n 3, 1) := by decide +kernel
theorem dX4_deriveErrors_98 : decode cX4_deriveErrors 98 = .ok (.ifCond .eq 7, 3) := by decide +kernel
theorem dX4_deriveErrors_101 : decode cX4_deriveErrors 101 = .ok (.iconst 4, 1) := by decide +kernel
theorem dX4_deriveErrors_102 : decode cX4_deriveErrors 102 = .ok (.goto 4, 3) := by decide +kernel
theorem dX4_deriveErrors_105 : decode cX4_deriveErrors 105 = .ok (.iconst 0, 1) := by decide +kernel
theorem dX4_deriveErrors_106 : decode cX4_deriveErrors 106 = .ok (.iastore, 1) := by decide +kernel
theorem dX4_deriveErrors_107 : decode cX4_deriveErrors 107 = .ok (.iinc 1 1, 3) := by decide +kernel
theorem dX4_deriveErrors_110 : decode cX4_deriveErrors 110 = .ok (.goto (-108), 3) := by decide +kernel
theorem dX4_deriveErrors_113 : decode cX4_deriveErrors 113 = .ok (.iconst 0, 1) := by decide +kernel
theorem dX4_deriveErrors_114 : decode cX4_deriveErrors 114 = .ok (.istore_n 1, 1) := by decide +kernel
theorem dX4_deriveErrors_115 : decode cX4_deriveErrors 115 = .ok (.iload_n 1, 1) := by decide +kernel
theorem dX4_deriveErrors_116 : decode cX4_deriveErrors 116 = .ok (.aload_n 0, 1) := by decide +kernel
theorem dX4_deriveErrors_117 : decode cX4_deriveErrors 117 = .ok (.getfield 7, 3) := by decide +kernel
theorem dX4_deriveErrors_120 : decode cX4_deriveErrors 120 = .ok (.iconst 0, 1) := by decide +kernel
theorem dX4_deriveErrors_121 : decode cX4_deriveErrors 121 = .ok (.iaload, 1) := by decide +kernel
theorem dX4_deriveErrors_122 : decode cX4_deriveErrors 122 = .ok (.if_icmp .ge 69, 3) := by decide +kernel
theorem dX4_deriveErrors_125 : decode cX4_deriveErrors 125 = .ok (.iconst 0, 1) := by decide +kernel
theorem dX4_deriveErrors_126 : decode cX4_deriveErrors 126 = .ok (.istore_n 2, 1) := by decide +kernel
theorem dX4_deriveErrors_127 : decode cX4_deriveErrors 127 = .ok (.iload_n 2, 1) := by decide +kernel
theorem dX4_deriveErrors_128 : decode cX4_deriveErrors 128 = .ok (.aload_n 0, 1) := by decide +kernel
theorem dX4_deriveErrors_129 : decode cX4_deriveErrors 129 = .ok (.getfield 7, 3) := by decide +kernel
theorem dX4_deriveErrors_132 : decode cX4_deriveErrors 132 = .ok (.iconst 0, 1) := by decide +kernel
theorem dX4_deriveErrors_133 : decode cX4_deriveErrors 133 = .ok (.iaload, 1) := by decide +kernel
theorem dX4_deriveErrors_134 : decode cX4_deriveErrors 134 = .ok (.if_icmp .ge 51, 3) := by decide +kernel
theorem dX4_deriveErrors_137 : decode cX4_deriveErrors 137 = .ok (.aload_n 0, 1) := by decide +kernel
theorem dX4_deriveErrors_138 : decode cX4_deriveErrors 138 = .ok (.getfield 22, 3) := by decide +kernel
theorem dX4_deriveErrors_141 : decode cX4_deriveErrors 141 = .ok (.iload_n 2, 1) := by decide +kernel
theorem dX4_deriveErrors_142 : decode cX4_deriveErrors 142 = .ok (.iaload, 1) := by decide +kernel
theorem dX4_deriveErrors_143 : decode cX4_deriveErrors 143 = .ok (.ifCond .ne 36, 3) := by decide +kernel
theorem dX4_deriveErrors_146 : decode cX4_deriveErrors 146 = .ok (.aload_n 0, 1) := by decide +kernel
theorem dX4_deriveErrors_147 : decode cX4_deriveErrors 147 = .ok (.aload_n 0, 1) := by decide +kernel
theorem dX4_deriveErrors_148 : decode cX4_deriveErrors 148 = .ok (.iload_n 2, 1) := by decide +kernel
theorem dX4_deriveErrors_149 : decode cX4_deriveErrors 149 = .ok (.iconst 2, 1) := by decide +kernel
theorem dX4_deriveErrors_150 : decode cX4_deriveErrors 150 = .ok (.invokevirtual 50, 3) := by decide +kernel
theorem dX4_deriveErrors_153 : decode cX4_deriveErrors 153 = .ok (.invokevirtual 67, 3) := by decide +kernel
theorem dX4_deriveErrors_156 : decode cX4_deriveErrors 156 = .ok (.ifCond .ne 16, 3) := by decide +kernel
theorem dX4_deriveErrors_159 : decode cX4_deriveErrors 159 = .ok (.aload_n 0, 1) := by decide +kernel
theorem dX4_deriveErrors_160 : decode cX4_deriveErrors 160 = .ok (.aload_n 0, 1) := by decide +kernel
theorem dX4_deriveErrors_161 : decode cX4_deriveErrors 161 = .ok (.iload_n 2, 1) := by decide +kernel
theorem dX4_deriveErrors_162 : decode cX4_deriveErrors 162 = .ok (.iconst 3, 1) := by decide +kernel
theorem dX4_deriveErrors_163 : decode cX4_deriveErrors 163 = .ok (.invokevirtual 50, 3) := by decide +kernel
theorem dX4_deriveErrors_166 : decode cX4_deriveErrors 166 = .ok (.invokevirtual 67, 3) := by decide +kernel
theorem dX4_deriveErrors_169 : decode cX4_deriveErrors 169 = .ok (.ifCond .eq 10, 3) := by decide +kernel
theorem dX4_deriveErrors_172 : decode cX4_deriveErrors 172 = .ok (.aload_n 0, 1) := by decide +kernel
theorem dX4_deriveErrors_173 : decode cX4_deriveErrors 173 = .ok (.getfield 22, 3) := by decide +kernel
theorem dX4_deriveErrors_176 : decode cX4_deriveErrors 176 = .ok (.iload_n 2, 1) := by decide +kernel
theorem dX4_deriveErrors_177 : decode cX4_deriveErrors 177 = .ok (.iconst 5, 1) := by decide +kernel
theorem dX4_deriveErrors_178 : decode cX4_deriveErrors 178 = .ok (.iastore, 1) := by decide +kernel
theorem dX4_deriveErrors_179 : decode cX4_deriveErrors 179 = .ok (.iinc 2 1, 3) := by decide +kernel
theorem dX4_deriveErrors_182 : decode cX4_deriveErrors 182 = .ok (.goto (-55), 3) := by decide +kernel
theorem dX4_deriveErrors_185 : decode cX4_deriveErrors 185 = .ok (.iinc 1 1, 3) := by decide +kernel
theorem dX4_deriveErrors_188 : decode cX4_deriveErrors 188 = .ok (.goto (-73), 3) := by decide +kernel
theorem dX4_deriveErrors_191 : decode cX4_deriveErrors 191 = .ok (.return_, 1) := by decide +kernel
theorem dX4_deriveOrder_0 : decode cX4_deriveOrder 0 = .ok (.aload_n 0, 1) := by decide +kernel
theorem dX4_deriveOrder_1 : decode cX4_deriveOrder 1 = .ok (.iconst 0, 1) := by decide +kernel
theorem dX4_deriveOrder_2 : decode cX4_deriveOrder 2 = .ok (.putfield 70, 3) := by decide +kernel
theorem dX4_deriveOrder_5 : decode cX4_deriveOrder 5 = .ok (.iconst 0, 1) := by decide +kernel
theorem dX4_deriveOrder_6 : decode cX4_deriveOrder 6 = .ok (.istore_n 1, 1) := by decide +kernel
theorem dX4_deriveOrder_7 : decode cX4_deriveOrder 7 = .ok (.iconst 1, 1) := by decide +kernel
theorem dX4_deriveOrder_8 : decode cX4_deriveOrder 8 = .ok (.istore_n 2, 1) := by decide +kernel
theorem dX4_deriveOrder_9 : decode cX4_deriveOrder 9 = .ok (.iload_n 2, 1) := by decide +kernel
theorem dX4_deriveOrder_10 : decode cX4_deriveOrder 10 = .ok (.ifCond .eq 88, 3) := by decide +kernel
theorem dX4_deriveOrder_13 : decode cX4_deriveOrder 13 = .ok (.iconst 0, 1) := by decide +kernel
theorem dX4_deriveOrder_14 : decode cX4_deriveOrder 14 = .ok (.istore_n 2, 1) := by decide +kernel
theorem dX4_deriveOrder_15 : decode cX4_deriveOrder 15 = .ok (.iconst 0, 1) := by decide +kernel
theorem dX4_deriveOrder_16 : decode cX4_deriveOrder 16 = .ok (.istore_n 3, 1) := by decide +kernel
theorem dX4_deriveOrder_17 : decode cX4_deriveOrder 17 = .ok (.iload_n 3, 1) := by decide +kernel
theorem dX4_deriveOrder_18 : decode cX4_deriveOrder 18 = .ok (.aload_n 0, 1) := by decide +kernel
theorem dX4_deriveOrder_19 : decode cX4_deriveOrder 19 = .ok (.getfield 7, 3) := by decide +kernel
theorem dX4_deriveOrder_22 : decode cX4_deriveOrder 22 = .ok (.iconst 0, 1) := by decide +kernel
theorem dX4_deriveOrder_23 : decode cX4_deriveOrder 23 = .ok (.iaload, 1) := by decide +kernel
theorem dX4_deriveOrder_24 : decode cX4_deriveOrder 24 = .ok (.if_icmp .ge 71, 3) := by decide +kernel
theorem dX4_deriveOrder_27 : decode cX4_deriveOrder 27 = .ok (.iload_n 2, 1) := by decide +kernel
theorem dX4_deriveOrder_28 : decode cX4_deriveOrder 28 = .ok (.ifCond .ne 67, 3) := by decide +kernel
theorem dX4_deriveOrder_31 : decode cX4_deriveOrder 31 = .ok (.aload_n 0, 1) := by decide +kernel
theorem dX4_deriveOrder_32 : decode cX4_deriveOrder 32 = .ok (.getfield 22, 3) := by decide +kernel
theorem dX4_deriveOrder_35 : decode cX4_deriveOrder 35 = .ok (.iload_n 3, 1) := by decide +kernel
theorem dX4_deriveOrder_36 : decode cX4_deriveOrder 36 = .ok (.iaload, 1) := by decide +kernel
theorem dX4_deriveOrder_37 : decode cX4_deriveOrder 37 = .ok (.ifCond .ne 52, 3) := by decide +kernel
theorem dX4_deriveOrder_40 : decode cX4_deriveOrder 40 = .ok (.iload_n 1, 1) := by decide +kernel
theorem dX4_deriveOrder_41 : decode cX4_deriveOrder 41 = .ok (.iload_n 3, 1) := by decide +kernel
theorem dX4_deriveOrder_42 : decode cX4_deriveOrder 42 = .ok (.ishr, 1) := by decide +kernel
theorem dX4_deriveOrder_43 : decode cX4_deriveOrder 43 = .ok (.iconst 1, 1) := by decide +kernel
theorem dX4_deriveOrder_44 : decode cX4_deriveOrder 44 = .ok (.iand, 1) := by decide +kernel
theorem dX4_deriveOrder_45 : decode cX4_deriveOrder 45 = .ok (.ifCond .ne 44, 3) := by decide +kernel
theorem dX4_deriveOrder_48 : decode cX4_deriveOrder 48 = .ok (.aload_n 0, 1) := by decide +kernel
theorem dX4_deriveOrder_49 : decode cX4_deriveOrder 49 = .ok (.getfield 19, 3) := by decide +kernel
theorem dX4_deriveOrder_52 : decode cX4_deriveOrder 52 = .ok (.iload_n 3, 1) := by decide +kernel
theorem dX4_deriveOrder_53 : decode cX4_deriveOrder 53 = .ok (.iaload, 1) := by decide +kernel
theorem dX4_deriveOrder_54 : decode cX4_deriveOrder 54 = .ok (.iload_n 1, 1) := by decide +kernel
theorem dX4_deriveOrder_55 : decode cX4_deriveOrder 55 = .ok (.iconst (-1), 1) := by decide +kernel
theorem dX4_deriveOrder_56 : decode cX4_deriveOrder 56 = .ok (.ixor, 1) := by decide +kernel
theorem dX4_deriveOrder_57 : decode cX4_deriveOrder 57 = .ok (.iand, 1) := by decide +kernel
theorem dX4_deriveOrder_58 : decode cX4_deriveOrder 58 = .ok (.ifCond .ne 31, 3) := by decide +kernel
theorem dX4_deriveOrder_61 : decode cX4_deriveOrder 61 = .ok (.aload_n 0, 1) := by decide +kernel
theorem dX4_deriveOrder_62 : decode cX4_deriveOrder 62 = .ok (.getfield 28, 3) := by decide +kernel
theorem dX4_deriveOrder_65 : decode cX4_deriveOrder 65 = .ok (.aload_n 0, 1) := by decide +kernel
theorem dX4_deriveOrder_66 : decode cX4_deriveOrder 66 = .ok (.getfield 70, 3) := by decide +kernel
theorem dX4_deriveOrder_69 : decode cX4_deriveOrder 69 = .ok (.iload_n 3, 1) := by decide +kernel
theorem dX4_deriveOrder_70 : decode cX4_deriveOrder 70 = .ok (.iastore, 1) := by decide +kernel
theorem dX4_deriveOrder_71 : decode cX4_deriveOrder 71 = .ok (.aload_n 0, 1) := by decide +kernel
theorem dX4_deriveOrder_72 : decode cX4_deriveOrder 72 = .ok (.dup, 1) := by decide +kernel
theorem dX4_deriveOrder_73 : decode cX4_deriveOrder 73 = .ok (.getfield 70, 3) := by decide +kernel
theorem dX4_deriveOrder_76 : decode cX4_deriveOrder 76 = .ok (.iconst 1, 1) := by decide +kernel
theorem dX4_deriveOrder_77 : decode cX4_deriveOrder 77 = .ok (.iadd, 1) := by decide +kernel
theorem dX4_deriveOrder_78 : decode cX4_deriveOrder 78 = .ok (.putfield 70, 3) := by decide +kernel
theorem dX4_deriveOrder_81 : decode cX4_deriveOrder 81 = .ok (.iload_n 1, 1) := by decide +kernel
theorem dX4_deriveOrder_82 : decode cX4_deriveOrder 82 = .ok (.iconst 1, 1) := by decide +kernel
theorem dX4_deriveOrder_83 : decode cX4_deriveOrder 83 = .ok (.iload_n 3, 1) := by decide +kernel
theorem dX4_deriveOrder_84 : decode cX4_deriveOrder 84 = .ok (.ishl, 1) := by decide +kernel
theorem dX4_deriveOrder_85 : decode cX4_deriveOrder 85 = .ok (.ior, 1) := by decide +kernel
theorem dX4_deriveOrder_86 : decode cX4_deriveOrder 86 = .ok (.istore_n 1, 1) := by decide +kernel
theorem dX4_deriveOrder_87 : decode cX4_deriveOrder 87 = .ok (.iconst 1, 1) := by decide +kernel
theorem dX4_deriveOrder_88 : decode cX4_deriveOrder 88 = .ok (.istore_n 2, 1) := by decide +kernel
theorem dX4_deriveOrder_89 : decode cX4_deriveOrder 89 = .ok (.iinc 3 1, 3) := by decide +kernel
theorem dX4_deriveOrder_92 : decode cX4_deriveOrder 92 = .ok (.goto (-75), 3) := by decide +kernel
theorem dX4_deriveOrder_95 : decode cX4_deriveOrder 95 = .ok (.goto (-86), 3) := by decide +kernel
theorem dX4_deriveOrder_98 : decode cX4_deriveOrder 98 = .ok (.return_, 1) := by decide +kernel
theorem dX4_isKnown_0 : decode cX4_isKnown 0 = .ok (.iload_n 1, 1) := by decide +kernel
theorem dX4_isKnown_1 : decode cX4_isKnown 1 = .ok (.bipush 100, 2) := by decide +kernel
theorem dX4_isKnown_3 : decode cX4_isKnown 3 = .ok (.if_icmp .ge 5, 3) := by decide +kernel
theorem dX4_isKnown_6 : decode cX4_isKnown 6 = .ok (.iconst 1, 1) := by decide +kernel
theorem dX4_isKnown_7 : decode cX4_isKnown 7 = .ok (.ireturn, 1) := by decide +kernel
theorem dX4_isKnown_8 : decode cX4_isKnown 8 = .ok (.aload_n 0, 1) := by decide +kernel
theorem dX4_isKnown_9 : decode cX4_isKnown 9 = .ok (.iload_n 1, 1) := by decide +kernel
theorem dX4_isKnown_10 : decode cX4_isKnown 10 = .ok (.invokevirtual 60, 3) := by decide +kernel
theorem dX4_isKnown_13 : decode cX4_isKnown 13 = .ok (.istore_n 3, 1) := by decide +kernel
theorem dX4_isKnown_14 : decode cX4_isKnown 14 = .ok (.aload_n 0, 1) := by decide +kernel
theorem dX4_isKnown_15 : decode cX4_isKnown 15 = .ok (.getfield 31, 3) := by decide +kernel
theorem dX4_isKnown_18 : decode cX4_isKnown 18 = .ok (.iload_n 3, 1) := by decide +kernel
theorem dX4_isKnown_19 : decode cX4_isKnown 19 = .ok (.baload, 1) := by decide +kernel
theorem dX4_isKnown_20 : decode cX4_isKnown 20 = .ok (.ifCond .eq 17, 3) := by decide +kernel
theorem dX4_isKnown_23 : decode cX4_isKnown 23 = .ok (.aload_n 0, 1) := by decide +kernel
theorem dX4_isKnown_24 : decode cX4_isKnown 24 = .ok (.iload_n 3, 1) := by decide +kernel
theorem dX4_isKnown_25 : decode cX4_isKnown 25 = .ok (.iconst 5, 1) := by decide +kernel
theorem dX4_isKnown_26 : decode cX4_isKnown 26 = .ok (.invokevirtual 50, 3) := by decide +kernel
theorem dX4_isKnown_29 : decode cX4_isKnown 29 = .ok (.iload_n 2, 1) := by decide +kernel
theorem dX4_isKnown_30 : decode cX4_isKnown 30 = .ok (.if_icmp .ne 7, 3) := by decide +kernel
theorem dX4_isKnown_33 : decode cX4_isKnown 33 = .ok (.iconst 1, 1) := by decide +kernel
theorem dX4_isKnown_34 : decode cX4_isKnown 34 = .ok (.goto 4, 3) := by decide +kernel
theorem dX4_isKnown_37 : decode cX4_isKnown 37 = .ok (.iconst 0, 1) := by decide +kernel
theorem dX4_isKnown_38 : decode cX4_isKnown 38 = .ok (.ireturn, 1) := by decide +kernel
theorem dX4_isFreshNow_0 : decode cX4_isFreshNow 0 = .ok (.aload_n 0, 1) := by decide +kernel
theorem dX4_isFreshNow_1 : decode cX4_isFreshNow 1 = .ok (.iload_n 1, 1) := by decide +kernel
theorem dX4_isFreshNow_2 : decode cX4_isFreshNow 2 = .ok (.iconst 5, 1) := by decide +kernel
theorem dX4_isFreshNow_3 : decode cX4_isFreshNow 3 = .ok (.invokevirtual 50, 3) := by decide +kernel
theorem dX4_isFreshNow_6 : decode cX4_isFreshNow 6 = .ok (.ifCond .le 47, 3) := by decide +kernel
theorem dX4_isFreshNow_9 : decode cX4_isFreshNow 9 = .ok (.aload_n 0, 1) := by decide +kernel
theorem dX4_isFreshNow_10 : decode cX4_isFreshNow 10 = .ok (.aload_n 0, 1) := by decide +kernel
theorem dX4_isFreshNow_11 : decode cX4_isFreshNow 11 = .ok (.iload_n 1, 1) := by decide +kernel
theorem dX4_isFreshNow_12 : decode cX4_isFreshNow 12 = .ok (.iconst 2, 1) := by decide +kernel
theorem dX4_isFreshNow_13 : decode cX4_isFreshNow 13 = .ok (.invokevirtual 50, 3) := by decide +kernel
theorem dX4_isFreshNow_16 : decode cX4_isFreshNow 16 = .ok (.aload_n 0, 1) := by decide +kernel
theorem dX4_isFreshNow_17 : decode cX4_isFreshNow 17 = .ok (.iload_n 1, 1) := by decide +kernel
theorem dX4_isFreshNow_18 : decode cX4_isFreshNow 18 = .ok (.bipush 6, 2) := by decide +kernel
theorem dX4_isFreshNow_20 : decode cX4_isFreshNow 20 = .ok (.invokevirtual 50, 3) := by decide +kernel
theorem dX4_isFreshNow_23 : decode cX4_isFreshNow 23 = .ok (.invokevirtual 73, 3) := by decide +kernel
theorem dX4_isFreshNow_26 : decode cX4_isFreshNow 26 = .ok (.ifCond .eq 27, 3) := by decide +kernel
theorem dX4_isFreshNow_29 : decode cX4_isFreshNow 29 = .ok (.aload_n 0, 1) := by decide +kernel
theorem dX4_isFreshNow_30 : decode cX4_isFreshNow 30 = .ok (.aload_n 0, 1) := by decide +kernel
theorem dX4_isFreshNow_31 : decode cX4_isFreshNow 31 = .ok (.iload_n 1, 1) := by decide +kernel
theorem dX4_isFreshNow_32 : decode cX4_isFreshNow 32 = .ok (.iconst 3, 1) := by decide +kernel
theorem dX4_isFreshNow_33 : decode cX4_isFreshNow 33 = .ok (.invokevirtual 50, 3) := by decide +kernel
theorem dX4_isFreshNow_36 : decode cX4_isFreshNow 36 = .ok (.aload_n 0, 1) := by decide +kernel
theorem dX4_isFreshNow_37 : decode cX4_isFreshNow 37 = .ok (.iload_n 1, 1) := by decide +kernel
theorem dX4_isFreshNow_38 : decode cX4_isFreshNow 38 = .ok (.bipush 7, 2) := by decide +kernel
theorem dX4_isFreshNow_40 : decode cX4_isFreshNow 40 = .ok (.invokevirtual 50, 3) := by decide +kernel
theorem dX4_isFreshNow_43 : decode cX4_isFreshNow 43 = .ok (.invokevirtual 73, 3) := by decide +kernel
theorem dX4_isFreshNow_46 : decode cX4_isFreshNow 46 = .ok (.ifCond .eq 7, 3) := by decide +kernel
theorem dX4_isFreshNow_49 : decode cX4_isFreshNow 49 = .ok (.iconst 1, 1) := by decide +kernel
theorem dX4_isFreshNow_50 : decode cX4_isFreshNow 50 = .ok (.goto 4, 3) := by decide +kernel
theorem dX4_isFreshNow_53 : decode cX4_isFreshNow 53 = .ok (.iconst 0, 1) := by decide +kernel
theorem dX4_isFreshNow_54 : decode cX4_isFreshNow 54 = .ok (.ireturn, 1) := by decide +kernel
theorem dX4_derive_0 : decode cX4_derive 0 = .ok (.aload_n 0, 1) := by decide +kernel
theorem dX4_derive_1 : decode cX4_derive 1 = .ok (.invokevirtual 77, 3) := by decide +kernel
theorem dX4_derive_4 : decode cX4_derive 4 = .ok (.aload_n 0, 1) := by decide +kernel
theorem dX4_derive_5 : decode cX4_derive 5 = .ok (.invokevirtual 80, 3) := by decide +kernel
theorem dX4_derive_8 : decode cX4_derive 8 = .ok (.aload_n 0, 1) := by decide +kernel
theorem dX4_derive_9 : decode cX4_derive 9 = .ok (.invokevirtual 83, 3) := by decide +kernel
theorem dX4_derive_12 : decode cX4_derive 12 = .ok (.iconst 0, 1) := by decide +kernel
theorem dX4_derive_13 : decode cX4_derive 13 = .ok (.istore_n 1, 1) := by decide +kernel
theorem dX4_derive_14 : decode cX4_derive 14 = .ok (.iload_n 1, 1) := by decide +kernel
theorem dX4_derive_15 : decode cX4_derive 15 = .ok (.aload_n 0, 1) := by decide +kernel
theorem dX4_derive_16 : decode cX4_derive 16 = .ok (.getfield 7, 3) := by decide +kernel
theorem dX4_derive_19 : decode cX4_derive 19 = .ok (.iconst 0, 1) := by decide +kernel
theorem dX4_derive_20 : decode cX4_derive 20 = .ok (.iaload, 1) := by decide +kernel
theorem dX4_derive_21 : decode cX4_derive 21 = .ok (.if_icmp .ge 16, 3) := by decide +kernel
theorem dX4_derive_24 : decode cX4_derive 24 = .ok (.aload_n 0, 1) := by decide +kernel
theorem dX4_derive_25 : decode cX4_derive 25 = .ok (.getfield 31, 3) := by decide +kernel
theorem dX4_derive_28 : decode cX4_derive 28 = .ok (.iload_n 1, 1) := by decide +kernel
theorem dX4_derive_29 : decode cX4_derive 29 = .ok (.iconst 0, 1) := by decide +kernel
theorem dX4_derive_30 : decode cX4_derive 30 = .ok (.bastore, 1) := by decide +kernel
theorem dX4_derive_31 : decode cX4_derive 31 = .ok (.iinc 1 1, 3) := by decide +kernel
theorem dX4_derive_34 : decode cX4_derive 34 = .ok (.goto (-20), 3) := by decide +kernel
theorem dX4_derive_37 : decode cX4_derive 37 = .ok (.iconst 0, 1) := by decide +kernel
theorem dX4_derive_38 : decode cX4_derive 38 = .ok (.istore_n 1, 1) := by decide +kernel
theorem dX4_derive_39 : decode cX4_derive 39 = .ok (.iload_n 1, 1) := by decide +kernel
theorem dX4_derive_40 : decode cX4_derive 40 = .ok (.aload_n 0, 1) := by decide +kernel
theorem dX4_derive_41 : decode cX4_derive 41 = .ok (.getfield 70, 3) := by decide +kernel
theorem dX4_derive_44 : decode cX4_derive 44 = .ok (.if_icmp .ge 30, 3) := by decide +kernel
theorem dX4_derive_47 : decode cX4_derive 47 = .ok (.aload_n 0, 1) := by decide +kernel
theorem dX4_derive_48 : decode cX4_derive 48 = .ok (.getfield 31, 3) := by decide +kernel
theorem dX4_derive_51 : decode cX4_derive 51 = .ok (.aload_n 0, 1) := by decide +kernel
theorem dX4_derive_52 : decode cX4_derive 52 = .ok (.getfield 28, 3) := by decide +kernel
theorem dX4_derive_55 : decode cX4_derive 55 = .ok (.iload_n 1, 1) := by decide +kernel
theorem dX4_derive_56 : decode cX4_derive 56 = .ok (.iaload, 1) := by decide +kernel
theorem dX4_derive_57 : decode cX4_derive 57 = .ok (.aload_n 0, 1) := by decide +kernel
theorem dX4_derive_58 : decode cX4_derive 58 = .ok (.aload_n 0, 1) := by decide +kernel
theorem dX4_derive_59 : decode cX4_derive 59 = .ok (.getfield 28, 3) := by decide +kernel
theorem dX4_derive_62 : decode cX4_derive 62 = .ok (.iload_n 1, 1) := by decide +kernel
theorem dX4_derive_63 : decode cX4_derive 63 = .ok (.iaload, 1) := by decide +kernel
theorem dX4_derive_64 : decode cX4_derive 64 = .ok (.invokevirtual 86, 3) := by decide +kernel
theorem dX4_derive_67 : decode cX4_derive 67 = .ok (.bastore, 1) := by decide +kernel
theorem dX4_derive_68 : decode cX4_derive 68 = .ok (.iinc 1 1, 3) := by decide +kernel
theorem dX4_derive_71 : decode cX4_derive 71 = .ok (.goto (-32), 3) := by decide +kernel
theorem dX4_derive_74 : decode cX4_derive 74 = .ok (.return_, 1) := by decide +kernel
theorem dX4_operandValue_0 : decode cX4_operandValue 0 = .ok (.iload_n 1, 1) := by decide +kernel
theorem dX4_operandValue_1 : decode cX4_operandValue 1 = .ok (.bipush 100, 2) := by decide +kernel
theorem dX4_operandValue_3 : decode cX4_operandValue 3 = .ok (.if_icmp .ge 5, 3) := by decide +kernel
theorem dX4_operandValue_6 : decode cX4_operandValue 6 = .ok (.iload_n 1, 1) := by decide +kernel
theorem dX4_operandValue_7 : decode cX4_operandValue 7 = .ok (.ireturn, 1) := by decide +kernel
theorem dX4_operandValue_8 : decode cX4_operandValue 8 = .ok (.aload_n 0, 1) := by decide +kernel
theorem dX4_operandValue_9 : decode cX4_operandValue 9 = .ok (.aload_n 0, 1) := by decide +kernel
theorem dX4_operandValue_10 : decode cX4_operandValue 10 = .ok (.iload_n 1, 1) := by decide +kernel
theorem dX4_operandValue_11 : decode cX4_operandValue 11 = .ok (.invokevirtual 60, 3) := by decide +kernel
theorem dX4_operandValue_14 : decode cX4_operandValue 14 = .ok (.iconst 4, 1) := by decide +kernel
theorem dX4_operandValue_15 : decode cX4_operandValue 15 = .ok (.invokevirtual 50, 3) := by decide +kernel
theorem dX4_operandValue_18 : decode cX4_operandValue 18 = .ok (.istore_n 2, 1) := by decide +kernel
theorem dX4_operandValue_19 : decode cX4_operandValue 19 = .ok (.iload_n 2, 1) := by decide +kernel
theorem dX4_operandValue_20 : decode cX4_operandValue 20 = .ok (.sipush 9999, 3) := by decide +kernel
theorem dX4_operandValue_23 : decode cX4_operandValue 23 = .ok (.if_icmp .le 9, 3) := by decide +kernel
theorem dX4_operandValue_26 : decode cX4_operandValue 26 = .ok (.sipush 20000, 3) := by decide +kernel
theorem dX4_operandValue_29 : decode cX4_operandValue 29 = .ok (.goto 4, 3) := by decide +kernel
theorem dX4_operandValue_32 : decode cX4_operandValue 32 = .ok (.iload_n 2, 1) := by decide +kernel
theorem dX4_operandValue_33 : decode cX4_operandValue 33 = .ok (.ireturn, 1) := by decide +kernel
theorem dX4_exact_0 : decode cX4_exact 0 = .ok (.iload_n 1, 1) := by decide +kernel
theorem dX4_exact_1 : decode cX4_exact 1 = .ok (.tableswitch 62 0 4 #[35, 39, 43, 47, 51], 35) := by decide +kernel
theorem dX4_exact_36 : decode cX4_exact 36 = .ok (.iload_n 2, 1) := by decide +kernel
theorem dX4_exact_37 : decode cX4_exact 37 = .ok (.iload_n 3, 1) := by decide +kernel
theorem dX4_exact_38 : decode cX4_exact 38 = .ok (.iadd, 1) := by decide +kernel
theorem dX4_exact_39 : decode cX4_exact 39 = .ok (.ireturn, 1) := by decide +kernel
theorem dX4_exact_40 : decode cX4_exact 40 = .ok (.iload_n 2, 1) := by decide +kernel
theorem dX4_exact_41 : decode cX4_exact 41 = .ok (.iload_n 3, 1) := by decide +kernel
theorem dX4_exact_42 : decode cX4_exact 42 = .ok (.isub, 1) := by decide +kernel
theorem dX4_exact_43 : decode cX4_exact 43 = .ok (.ireturn, 1) := by decide +kernel
theorem dX4_exact_44 : decode cX4_exact 44 = .ok (.iload_n 2, 1) := by decide +kernel
theorem dX4_exact_45 : decode cX4_exact 45 = .ok (.iload_n 3, 1) := by decide +kernel
theorem dX4_exact_46 : decode cX4_exact 46 = .ok (.imul, 1) := by decide +kernel
theorem dX4_exact_47 : decode cX4_exact 47 = .ok (.ireturn, 1) := by decide +kernel
theorem dX4_exact_48 : decode cX4_exact 48 = .ok (.iload_n 2, 1) := by decide +kernel
theorem dX4_exact_49 : decode cX4_exact 49 = .ok (.iload_n 3, 1) := by decide +kernel
theorem dX4_exact_50 : decode cX4_exact 50 = .ok (.idiv, 1) := by decide +kernel
theorem dX4_exact_51 : decode cX4_exact 51 = .ok (.ireturn, 1) := by decide +kernel
theorem dX4_exact_52 : decode cX4_exact 52 = .ok (.iload_n 2, 1) := by decide +kernel
theorem dX4_exact_53 : decode cX4_exact 53 = .ok (.iload_n 3, 1) := by decide +kernel
theorem dX4_exact_54 : decode cX4_exact 54 = .ok (.if_icmp .le 7, 3) := by decide +kernel
theorem dX4_exact_57 : decode cX4_exact 57 = .ok (.iload_n 2, 1) := by decide +kernel
theorem dX4_exact_58 : decode cX4_exact 58 = .ok (.goto 4, 3) := by decide +kernel
theorem dX4_exact_61 : decode cX4_exact 61 = .ok (.iload_n 3, 1) := by decide +kernel
theorem dX4_exact_62 : decode cX4_exact 62 = .ok (.ireturn, 1) := by decide +kernel
theorem dX4_exact_63 : decode cX4_exact 63 = .ok (.iload_n 2, 1) := by decide +kernel
theorem dX4_exact_64 : decode cX4_exact 64 = .ok (.iload_n 3, 1) := by decide +kernel
theorem dX4_exact_65 : decode cX4_exact 65 = .ok (.if_icmp .ge 7, 3) := by decide +kernel
theorem dX4_exact_68 : decode cX4_exact 68 = .ok (.iload_n 2, 1) := by decide +kernel
theorem dX4_exact_69 : decode cX4_exact 69 = .ok (.goto 4, 3) := by decide +kernel
theorem dX4_exact_72 : decode cX4_exact 72 = .ok (.iload_n 3, 1) := by decide +kernel
theorem dX4_exact_73 : decode cX4_exact 73 = .ok (.ireturn, 1) := by decide +kernel
theorem dX4_compute_0 : decode cX4_compute 0 = .ok (.aload_n 0, 1) := by decide +kernel
theorem dX4_compute_1 : decode cX4_compute 1 = .ok (.aload_n 0, 1) := by decide +kernel
theorem dX4_compute_2 : decode cX4_compute 2 = .ok (.iload_n 1, 1) := by decide +kernel
theorem dX4_compute_3 : decode cX4_compute 3 = .ok (.iconst 2, 1) := by decide +kernel
theorem dX4_compute_4 : decode cX4_compute 4 = .ok (.invokevirtual 50, 3) := by decide +kernel
theorem dX4_compute_7 : decode cX4_compute 7 = .ok (.invokevirtual 89, 3) := by decide +kernel
theorem dX4_compute_10 : decode cX4_compute 10 = .ok (.istore_n 2, 1) := by decide +kernel
theorem dX4_compute_11 : decode cX4_compute 11 = .ok (.aload_n 0, 1) := by decide +kernel
theorem dX4_compute_12 : decode cX4_compute 12 = .ok (.aload_n 0, 1) := by decide +kernel
theorem dX4_compute_13 : decode cX4_compute 13 = .ok (.iload_n 1, 1) := by decide +kernel
theorem dX4_compute_14 : decode cX4_compute 14 = .ok (.iconst 3, 1) := by decide +kernel
theorem dX4_compute_15 : decode cX4_compute 15 = .ok (.invokevirtual 50, 3) := by decide +kernel
theorem dX4_compute_18 : decode cX4_compute 18 = .ok (.invokevirtual 89, 3) := by decide +kernel
theorem dX4_compute_21 : decode cX4_compute 21 = .ok (.istore_n 3, 1) := by decide +kernel
theorem dX4_compute_22 : decode cX4_compute 22 = .ok (.iload_n 2, 1) := by decide +kernel
theorem dX4_compute_23 : decode cX4_compute 23 = .ok (.sipush 20000, 3) := by decide +kernel
theorem dX4_compute_26 : decode cX4_compute 26 = .ok (.if_icmp .eq 10, 3) := by decide +kernel
theorem dX4_compute_29 : decode cX4_compute 29 = .ok (.iload_n 3, 1) := by decide +kernel
theorem dX4_compute_30 : decode cX4_compute 30 = .ok (.sipush 20000, 3) := by decide +kernel
theorem dX4_compute_33 : decode cX4_compute 33 = .ok (.if_icmp .ne 7, 3) := by decide +kernel
theorem dX4_compute_36 : decode cX4_compute 36 = .ok (.sipush 20005, 3) := by decide +kernel
theorem dX4_compute_39 : decode cX4_compute 39 = .ok (.ireturn, 1) := by decide +kernel
theorem dX4_compute_40 : decode cX4_compute 40 = .ok (.aload_n 0, 1) := by decide +kernel
theorem dX4_compute_41 : decode cX4_compute 41 = .ok (.iload_n 1, 1) := by decide +kernel
theorem dX4_compute_42 : decode cX4_compute 42 = .ok (.iconst 1, 1) := by decide +kernel
theorem dX4_compute_43 : decode cX4_compute 43 = .ok (.invokevirtual 50, 3) := by decide +kernel
theorem dX4_compute_46 : decode cX4_compute 46 = .ok (.istore 4, 2) := by decide +kernel
theorem dX4_compute_48 : decode cX4_compute 48 = .ok (.iload 4, 2) := by decide +kernel
theorem dX4_compute_50 : decode cX4_compute 50 = .ok (.iconst 3, 1) := by decide +kernel
theorem dX4_compute_51 : decode cX4_compute 51 = .ok (.if_icmp .ne 11, 3) := by decide +kernel
theorem dX4_compute_54 : decode cX4_compute 54 = .ok (.iload_n 3, 1) := by decide +kernel
theorem dX4_compute_55 : decode cX4_compute 55 = .ok (.ifCond .ne 7, 3) := by decide +kernel
theorem dX4_compute_58 : decode cX4_compute 58 = .ok (.sipush 20007, 3) := by decide +kernel
theorem dX4_compute_61 : decode cX4_compute 61 = .ok (.ireturn, 1) := by decide +kernel
theorem dX4_compute_62 : decode cX4_compute 62 = .ok (.aload_n 0, 1) := by decide +kernel
theorem dX4_compute_63 : decode cX4_compute 63 = .ok (.iload 4, 2) := by decide +kernel
theorem dX4_compute_65 : decode cX4_compute 65 = .ok (.iload_n 2, 1) := by decide +kernel
theorem dX4_compute_66 : decode cX4_compute 66 = .ok (.iload_n 3, 1) := by decide +kernel
theorem dX4_compute_67 : decode cX4_compute 67 = .ok (.invokevirtual 92, 3) := by decide +kernel
theorem dX4_compute_70 : decode cX4_compute 70 = .ok (.istore 5, 2) := by decide +kernel
theorem dX4_compute_72 : decode cX4_compute 72 = .ok (.iload 5, 2) := by decide +kernel
theorem dX4_compute_74 : decode cX4_compute 74 = .ok (.sipush (-9999), 3) := by decide +kernel
theorem dX4_compute_77 : decode cX4_compute 77 = .ok (.sipush 9999, 3) := by decide +kernel
theorem dX4_compute_80 : decode cX4_compute 80 = .ok (.invokestatic 42, 3) := by decide +kernel
theorem dX4_compute_83 : decode cX4_compute 83 = .ok (.ifCond .eq 8, 3) := by decide +kernel
theorem dX4_compute_86 : decode cX4_compute 86 = .ok (.iload 5, 2) := by decide +kernel
theorem dX4_compute_88 : decode cX4_compute 88 = .ok (.goto 6, 3) := by decide +kernel
theorem dX4_compute_91 : decode cX4_compute 91 = .ok (.sipush 20006, 3) := by decide +kernel
theorem dX4_compute_94 : decode cX4_compute 94 = .ok (.ireturn, 1) := by decide +kernel
theorem dX4_versionOf_0 : decode cX4_versionOf 0 = .ok (.iload_n 1, 1) := by decide +kernel
theorem dX4_versionOf_1 : decode cX4_versionOf 1 = .ok (.bipush 100, 2) := by decide +kernel
theorem dX4_versionOf_3 : decode cX4_versionOf 3 = .ok (.if_icmp .ge 7, 3) := by decide +kernel
theorem dX4_versionOf_6 : decode cX4_versionOf 6 = .ok (.iconst 0, 1) := by decide +kernel
theorem dX4_versionOf_7 : decode cX4_versionOf 7 = .ok (.goto 13, 3) := by decide +kernel
theorem dX4_versionOf_10 : decode cX4_versionOf 10 = .ok (.aload_n 0, 1) := by decide +kernel
theorem dX4_versionOf_11 : decode cX4_versionOf 11 = .ok (.aload_n 0, 1) := by decide +kernel
theorem dX4_versionOf_12 : decode cX4_versionOf 12 = .ok (.iload_n 1, 1) := by decide +kernel
theorem dX4_versionOf_13 : decode cX4_versionOf 13 = .ok (.invokevirtual 60, 3) := by decide +kernel
theorem dX4_versionOf_16 : decode cX4_versionOf 16 = .ok (.iconst 5, 1) := by decide +kernel
theorem dX4_versionOf_17 : decode cX4_versionOf 17 = .ok (.invokevirtual 50, 3) := by decide +kernel
theorem dX4_versionOf_20 : decode cX4_versionOf 20 = .ok (.ireturn, 1) := by decide +kernel
theorem dX4_runOne_0 : decode cX4_runOne 0 = .ok (.aload_n 0, 1) := by decide +kernel
theorem dX4_runOne_1 : decode cX4_runOne 1 = .ok (.iload_n 1, 1) := by decide +kernel
theorem dX4_runOne_2 : decode cX4_runOne 2 = .ok (.invokevirtual 96, 3) := by decide +kernel
theorem dX4_runOne_5 : decode cX4_runOne 5 = .ok (.istore_n 2, 1) := by decide +kernel
theorem dX4_runOne_6 : decode cX4_runOne 6 = .ok (.aload_n 0, 1) := by decide +kernel
theorem dX4_runOne_7 : decode cX4_runOne 7 = .ok (.iload_n 1, 1) := by decide +kernel
theorem dX4_runOne_8 : decode cX4_runOne 8 = .ok (.iconst 5, 1) := by decide +kernel
theorem dX4_runOne_9 : decode cX4_runOne 9 = .ok (.invokevirtual 50, 3) := by decide +kernel
theorem dX4_runOne_12 : decode cX4_runOne 12 = .ok (.ifCond .eq 13, 3) := by decide +kernel
theorem dX4_runOne_15 : decode cX4_runOne 15 = .ok (.aload_n 0, 1) := by decide +kernel
theorem dX4_runOne_16 : decode cX4_runOne 16 = .ok (.iload_n 1, 1) := by decide +kernel
theorem dX4_runOne_17 : decode cX4_runOne 17 = .ok (.iconst 4, 1) := by decide +kernel
theorem dX4_runOne_18 : decode cX4_runOne 18 = .ok (.invokevirtual 50, 3) := by decide +kernel
theorem dX4_runOne_21 : decode cX4_runOne 21 = .ok (.iload_n 2, 1) := by decide +kernel
theorem dX4_runOne_22 : decode cX4_runOne 22 = .ok (.if_icmp .eq 40, 3) := by decide +kernel
theorem dX4_runOne_25 : decode cX4_runOne 25 = .ok (.aload_n 0, 1) := by decide +kernel
theorem dX4_runOne_26 : decode cX4_runOne 26 = .ok (.getfield 7, 3) := by decide +kernel
theorem dX4_runOne_29 : decode cX4_runOne 29 = .ok (.iconst 2, 1) := by decide +kernel
theorem dX4_runOne_30 : decode cX4_runOne 30 = .ok (.dup2, 1) := by decide +kernel
theorem dX4_runOne_31 : decode cX4_runOne 31 = .ok (.iaload, 1) := by decide +kernel
theorem dX4_runOne_32 : decode cX4_runOne 32 = .ok (.iconst 1, 1) := by decide +kernel
theorem dX4_runOne_33 : decode cX4_runOne 33 = .ok (.iadd, 1) := by decide +kernel
theorem dX4_runOne_34 : decode cX4_runOne 34 = .ok (.iastore, 1) := by decide +kernel
theorem dX4_runOne_35 : decode cX4_runOne 35 = .ok (.aload_n 0, 1) := by decide +kernel
theorem dX4_runOne_36 : decode cX4_runOne 36 = .ok (.getfield 7, 3) := by decide +kernel
theorem dX4_runOne_39 : decode cX4_runOne 39 = .ok (.iload_n 1, 1) := by decide +kernel
theorem dX4_runOne_40 : decode cX4_runOne 40 = .ok (.iconst 4, 1) := by decide +kernel
theorem dX4_runOne_41 : decode cX4_runOne 41 = .ok (.invokestatic 38, 3) := by decide +kernel
theorem dX4_runOne_44 : decode cX4_runOne 44 = .ok (.iload_n 2, 1) := by decide +kernel
theorem dX4_runOne_45 : decode cX4_runOne 45 = .ok (.iastore, 1) := by decide +kernel
theorem dX4_runOne_46 : decode cX4_runOne 46 = .ok (.aload_n 0, 1) := by decide +kernel
theorem dX4_runOne_47 : decode cX4_runOne 47 = .ok (.getfield 7, 3) := by decide +kernel
theorem dX4_runOne_50 : decode cX4_runOne 50 = .ok (.iload_n 1, 1) := by decide +kernel
theorem dX4_runOne_51 : decode cX4_runOne 51 = .ok (.iconst 5, 1) := by decide +kernel
theorem dX4_runOne_52 : decode cX4_runOne 52 = .ok (.invokestatic 38, 3) := by decide +kernel
theorem dX4_runOne_55 : decode cX4_runOne 55 = .ok (.aload_n 0, 1) := by decide +kernel
theorem dX4_runOne_56 : decode cX4_runOne 56 = .ok (.getfield 7, 3) := by decide +kernel
theorem dX4_runOne_59 : decode cX4_runOne 59 = .ok (.iconst 2, 1) := by decide +kernel
theorem dX4_runOne_60 : decode cX4_runOne 60 = .ok (.iaload, 1) := by decide +kernel
theorem dX4_runOne_61 : decode cX4_runOne 61 = .ok (.iastore, 1) := by decide +kernel
theorem dX4_runOne_62 : decode cX4_runOne 62 = .ok (.aload_n 0, 1) := by decide +kernel
theorem dX4_runOne_63 : decode cX4_runOne 63 = .ok (.getfield 7, 3) := by decide +kernel
theorem dX4_runOne_66 : decode cX4_runOne 66 = .ok (.iload_n 1, 1) := by decide +kernel
theorem dX4_runOne_67 : decode cX4_runOne 67 = .ok (.bipush 6, 2) := by decide +kernel
theorem dX4_runOne_69 : decode cX4_runOne 69 = .ok (.invokestatic 38, 3) := by decide +kernel
theorem dX4_runOne_72 : decode cX4_runOne 72 = .ok (.aload_n 0, 1) := by decide +kernel
theorem dX4_runOne_73 : decode cX4_runOne 73 = .ok (.aload_n 0, 1) := by decide +kernel
theorem dX4_runOne_74 : decode cX4_runOne 74 = .ok (.iload_n 1, 1) := by decide +kernel
theorem dX4_runOne_75 : decode cX4_runOne 75 = .ok (.iconst 2, 1) := by decide +kernel
theorem dX4_runOne_76 : decode cX4_runOne 76 = .ok (.invokevirtual 50, 3) := by decide +kernel
theorem dX4_runOne_79 : decode cX4_runOne 79 = .ok (.invokevirtual 99, 3) := by decide +kernel
theorem dX4_runOne_82 : decode cX4_runOne 82 = .ok (.iastore, 1) := by decide +kernel
theorem dX4_runOne_83 : decode cX4_runOne 83 = .ok (.aload_n 0, 1) := by decide +kernel
theorem dX4_runOne_84 : decode cX4_runOne 84 = .ok (.getfield 7, 3) := by decide +kernel
theorem dX4_runOne_87 : decode cX4_runOne 87 = .ok (.iload_n 1, 1) := by decide +kernel
theorem dX4_runOne_88 : decode cX4_runOne 88 = .ok (.bipush 7, 2) := by decide +kernel
theorem dX4_runOne_90 : decode cX4_runOne 90 = .ok (.invokestatic 38, 3) := by decide +kernel
theorem dX4_runOne_93 : decode cX4_runOne 93 = .ok (.aload_n 0, 1) := by decide +kernel
theorem dX4_runOne_94 : decode cX4_runOne 94 = .ok (.aload_n 0, 1) := by decide +kernel
theorem dX4_runOne_95 : decode cX4_runOne 95 = .ok (.iload_n 1, 1) := by decide +kernel
theorem dX4_runOne_96 : decode cX4_runOne 96 = .ok (.iconst 3, 1) := by decide +kernel
theorem dX4_runOne_97 : decode cX4_runOne 97 = .ok (.invokevirtual 50, 3) := by decide +kernel
theorem dX4_runOne_100 : decode cX4_runOne 100 = .ok (.invokevirtual 99, 3) := by decide +kernel
theorem dX4_runOne_103 : decode cX4_runOne 103 = .ok (.iastore, 1) := by decide +kernel
theorem dX4_runOne_104 : decode cX4_runOne 104 = .ok (.aload_n 0, 1) := by decide +kernel
theorem dX4_runOne_105 : decode cX4_runOne 105 = .ok (.getfield 7, 3) := by decide +kernel
theorem dX4_runOne_108 : decode cX4_runOne 108 = .ok (.iload_n 1, 1) := by decide +kernel
theorem dX4_runOne_109 : decode cX4_runOne 109 = .ok (.bipush 8, 2) := by decide +kernel
theorem dX4_runOne_111 : decode cX4_runOne 111 = .ok (.invokestatic 38, 3) := by decide +kernel
theorem dX4_runOne_114 : decode cX4_runOne 114 = .ok (.dup2, 1) := by decide +kernel
theorem dX4_runOne_115 : decode cX4_runOne 115 = .ok (.iaload, 1) := by decide +kernel
theorem dX4_runOne_116 : decode cX4_runOne 116 = .ok (.iconst 1, 1) := by decide +kernel
theorem dX4_runOne_117 : decode cX4_runOne 117 = .ok (.iadd, 1) := by decide +kernel
theorem dX4_runOne_118 : decode cX4_runOne 118 = .ok (.iastore, 1) := by decide +kernel
theorem dX4_runOne_119 : decode cX4_runOne 119 = .ok (.aload_n 0, 1) := by decide +kernel
theorem dX4_runOne_120 : decode cX4_runOne 120 = .ok (.getfield 7, 3) := by decide +kernel
theorem dX4_runOne_123 : decode cX4_runOne 123 = .ok (.iconst 3, 1) := by decide +kernel
theorem dX4_runOne_124 : decode cX4_runOne 124 = .ok (.dup2, 1) := by decide +kernel
theorem dX4_runOne_125 : decode cX4_runOne 125 = .ok (.iaload, 1) := by decide +kernel
theorem dX4_runOne_126 : decode cX4_runOne 126 = .ok (.iconst 1, 1) := by decide +kernel
theorem dX4_runOne_127 : decode cX4_runOne 127 = .ok (.iadd, 1) := by decide +kernel
theorem dX4_runOne_128 : decode cX4_runOne 128 = .ok (.iastore, 1) := by decide +kernel
theorem dX4_runOne_129 : decode cX4_runOne 129 = .ok (.aload_n 0, 1) := by decide +kernel
theorem dX4_runOne_130 : decode cX4_runOne 130 = .ok (.getfield 7, 3) := by decide +kernel
theorem dX4_runOne_133 : decode cX4_runOne 133 = .ok (.iconst 5, 1) := by decide +kernel
theorem dX4_runOne_134 : decode cX4_runOne 134 = .ok (.aload_n 0, 1) := by decide +kernel
theorem dX4_runOne_135 : decode cX4_runOne 135 = .ok (.getfield 7, 3) := by decide +kernel
theorem dX4_runOne_138 : decode cX4_runOne 138 = .ok (.iconst 4, 1) := by decide +kernel
theorem dX4_runOne_139 : decode cX4_runOne 139 = .ok (.iaload, 1) := by decide +kernel
theorem dX4_runOne_140 : decode cX4_runOne 140 = .ok (.iadd, 1) := by decide +kernel
theorem dX4_runOne_141 : decode cX4_runOne 141 = .ok (.iload_n 1, 1) := by decide +kernel
theorem dX4_runOne_142 : decode cX4_runOne 142 = .ok (.iastore, 1) := by decide +kernel
theorem dX4_runOne_143 : decode cX4_runOne 143 = .ok (.aload_n 0, 1) := by decide +kernel
theorem dX4_runOne_144 : decode cX4_runOne 144 = .ok (.getfield 7, 3) := by decide +kernel
theorem dX4_runOne_147 : decode cX4_runOne 147 = .ok (.iconst 4, 1) := by decide +kernel
theorem dX4_runOne_148 : decode cX4_runOne 148 = .ok (.dup2, 1) := by decide +kernel
theorem dX4_runOne_149 : decode cX4_runOne 149 = .ok (.iaload, 1) := by decide +kernel
theorem dX4_runOne_150 : decode cX4_runOne 150 = .ok (.iconst 1, 1) := by decide +kernel
theorem dX4_runOne_151 : decode cX4_runOne 151 = .ok (.iadd, 1) := by decide +kernel
theorem dX4_runOne_152 : decode cX4_runOne 152 = .ok (.iastore, 1) := by decide +kernel
theorem dX4_runOne_153 : decode cX4_runOne 153 = .ok (.return_, 1) := by decide +kernel
theorem dX4_runThrough_0 : decode cX4_runThrough 0 = .ok (.aload_n 0, 1) := by decide +kernel
theorem dX4_runThrough_1 : decode cX4_runThrough 1 = .ok (.invokevirtual 102, 3) := by decide +kernel
theorem dX4_runThrough_4 : decode cX4_runThrough 4 = .ok (.iconst 0, 1) := by decide +kernel
theorem dX4_runThrough_5 : decode cX4_runThrough 5 = .ok (.istore_n 2, 1) := by decide +kernel
theorem dX4_runThrough_6 : decode cX4_runThrough 6 = .ok (.iload_n 2, 1) := by decide +kernel
theorem dX4_runThrough_7 : decode cX4_runThrough 7 = .ok (.aload_n 0, 1) := by decide +kernel
theorem dX4_runThrough_8 : decode cX4_runThrough 8 = .ok (.getfield 70, 3) := by decide +kernel
theorem dX4_runThrough_11 : decode cX4_runThrough 11 = .ok (.if_icmp .ge 61, 3) := by decide +kernel
theorem dX4_runThrough_14 : decode cX4_runThrough 14 = .ok (.aload_n 0, 1) := by decide +kernel
theorem dX4_runThrough_15 : decode cX4_runThrough 15 = .ok (.getfield 28, 3) := by decide +kernel
theorem dX4_runThrough_18 : decode cX4_runThrough 18 = .ok (.iload_n 2, 1) := by decide +kernel
theorem dX4_runThrough_19 : decode cX4_runThrough 19 = .ok (.iaload, 1) := by decide +kernel
theorem dX4_runThrough_20 : decode cX4_runThrough 20 = .ok (.istore_n 3, 1) := by decide +kernel
theorem dX4_runThrough_21 : decode cX4_runThrough 21 = .ok (.aload_n 0, 1) := by decide +kernel
theorem dX4_runThrough_22 : decode cX4_runThrough 22 = .ok (.getfield 31, 3) := by decide +kernel
theorem dX4_runThrough_25 : decode cX4_runThrough 25 = .ok (.iload_n 3, 1) := by decide +kernel
theorem dX4_runThrough_26 : decode cX4_runThrough 26 = .ok (.aload_n 0, 1) := by decide +kernel
theorem dX4_runThrough_27 : decode cX4_runThrough 27 = .ok (.iload_n 3, 1) := by decide +kernel
theorem dX4_runThrough_28 : decode cX4_runThrough 28 = .ok (.invokevirtual 86, 3) := by decide +kernel
theorem dX4_runThrough_31 : decode cX4_runThrough 31 = .ok (.bastore, 1) := by decide +kernel
theorem dX4_runThrough_32 : decode cX4_runThrough 32 = .ok (.iload_n 1, 1) := by decide +kernel
theorem dX4_runThrough_33 : decode cX4_runThrough 33 = .ok (.iload_n 3, 1) := by decide +kernel
theorem dX4_runThrough_34 : decode cX4_runThrough 34 = .ok (.ishr, 1) := by decide +kernel
theorem dX4_runThrough_35 : decode cX4_runThrough 35 = .ok (.iconst 1, 1) := by decide +kernel
theorem dX4_runThrough_36 : decode cX4_runThrough 36 = .ok (.iand, 1) := by decide +kernel
theorem dX4_runThrough_37 : decode cX4_runThrough 37 = .ok (.iconst 1, 1) := by decide +kernel
theorem dX4_runThrough_38 : decode cX4_runThrough 38 = .ok (.if_icmp .ne 28, 3) := by decide +kernel
theorem dX4_runThrough_41 : decode cX4_runThrough 41 = .ok (.aload_n 0, 1) := by decide +kernel
theorem dX4_runThrough_42 : decode cX4_runThrough 42 = .ok (.getfield 31, 3) := by decide +kernel
theorem dX4_runThrough_45 : decode cX4_runThrough 45 = .ok (.iload_n 3, 1) := by decide +kernel
theorem dX4_runThrough_46 : decode cX4_runThrough 46 = .ok (.baload, 1) := by decide +kernel
theorem dX4_runThrough_47 : decode cX4_runThrough 47 = .ok (.ifCond .ne 19, 3) := by decide +kernel
theorem dX4_runThrough_50 : decode cX4_runThrough 50 = .ok (.aload_n 0, 1) := by decide +kernel
theorem dX4_runThrough_51 : decode cX4_runThrough 51 = .ok (.iload_n 3, 1) := by decide +kernel
theorem dX4_runThrough_52 : decode cX4_runThrough 52 = .ok (.invokevirtual 105, 3) := by decide +kernel
theorem dX4_runThrough_55 : decode cX4_runThrough 55 = .ok (.aload_n 0, 1) := by decide +kernel
theorem dX4_runThrough_56 : decode cX4_runThrough 56 = .ok (.getfield 31, 3) := by decide +kernel
theorem dX4_runThrough_59 : decode cX4_runThrough 59 = .ok (.iload_n 3, 1) := by decide +kernel
theorem dX4_runThrough_60 : decode cX4_runThrough 60 = .ok (.aload_n 0, 1) := by decide +kernel
theorem dX4_runThrough_61 : decode cX4_runThrough 61 = .ok (.iload_n 3, 1) := by decide +kernel
theorem dX4_runThrough_62 : decode cX4_runThrough 62 = .ok (.invokevirtual 86, 3) := by decide +kernel
theorem dX4_runThrough_65 : decode cX4_runThrough 65 = .ok (.bastore, 1) := by decide +kernel
theorem dX4_runThrough_66 : decode cX4_runThrough 66 = .ok (.iinc 2 1, 3) := by decide +kernel
theorem dX4_runThrough_69 : decode cX4_runThrough 69 = .ok (.goto (-63), 3) := by decide +kernel
theorem dX4_runThrough_72 : decode cX4_runThrough 72 = .ok (.return_, 1) := by decide +kernel
theorem dX4_runIfEager_0 : decode cX4_runIfEager 0 = .ok (.aload_n 0, 1) := by decide +kernel
theorem dX4_runIfEager_1 : decode cX4_runIfEager 1 = .ok (.getfield 7, 3) := by decide +kernel
theorem dX4_runIfEager_4 : decode cX4_runIfEager 4 = .ok (.iconst 1, 1) := by decide +kernel
theorem dX4_runIfEager_5 : decode cX4_runIfEager 5 = .ok (.iaload, 1) := by decide +kernel
theorem dX4_runIfEager_6 : decode cX4_runIfEager 6 = .ok (.iconst 1, 1) := by decide +kernel
theorem dX4_runIfEager_7 : decode cX4_runIfEager 7 = .ok (.if_icmp .ne 8, 3) := by decide +kernel
theorem dX4_runIfEager_10 : decode cX4_runIfEager 10 = .ok (.aload_n 0, 1) := by decide +kernel
theorem dX4_runIfEager_11 : decode cX4_runIfEager 11 = .ok (.iconst (-1), 1) := by decide +kernel
theorem dX4_runIfEager_12 : decode cX4_runIfEager 12 = .ok (.invokevirtual 109, 3) := by decide +kernel
theorem dX4_runIfEager_15 : decode cX4_runIfEager 15 = .ok (.return_, 1) := by decide +kernel
theorem dX4_runStale_0 : decode cX4_runStale 0 = .ok (.aload_n 0, 1) := by decide +kernel
theorem dX4_runStale_1 : decode cX4_runStale 1 = .ok (.invokevirtual 112, 3) := by decide +kernel
theorem dX4_runStale_4 : decode cX4_runStale 4 = .ok (.aload_n 0, 1) := by decide +kernel
theorem dX4_runStale_5 : decode cX4_runStale 5 = .ok (.iconst (-1), 1) := by decide +kernel
theorem dX4_runStale_6 : decode cX4_runStale 6 = .ok (.invokevirtual 109, 3) := by decide +kernel
theorem dX4_runStale_9 : decode cX4_runStale 9 = .ok (.aload_n 0, 1) := by decide +kernel
theorem dX4_runStale_10 : decode cX4_runStale 10 = .ok (.getfield 7, 3) := by decide +kernel
theorem dX4_runStale_13 : decode cX4_runStale 13 = .ok (.iconst 4, 1) := by decide +kernel
theorem dX4_runStale_14 : decode cX4_runStale 14 = .ok (.iaload, 1) := by decide +kernel
theorem dX4_runStale_15 : decode cX4_runStale 15 = .ok (.ireturn, 1) := by decide +kernel
theorem dX4_runCell_0 : decode cX4_runCell 0 = .ok (.aload_n 0, 1) := by decide +kernel
theorem dX4_runCell_1 : decode cX4_runCell 1 = .ok (.iload_n 1, 1) := by decide +kernel
theorem dX4_runCell_2 : decode cX4_runCell 2 = .ok (.invokevirtual 115, 3) := by decide +kernel
theorem dX4_runCell_5 : decode cX4_runCell 5 = .ok (.ifCond .ne 11, 3) := by decide +kernel
theorem dX4_runCell_8 : decode cX4_runCell 8 = .ok (.aload_n 0, 1) := by decide +kernel
theorem dX4_runCell_9 : decode cX4_runCell 9 = .ok (.sipush (-10002), 3) := by decide +kernel
theorem dX4_runCell_12 : decode cX4_runCell 12 = .ok (.invokevirtual 118, 3) := by decide +kernel
theorem dX4_runCell_15 : decode cX4_runCell 15 = .ok (.ireturn, 1) := by decide +kernel
theorem dX4_runCell_16 : decode cX4_runCell 16 = .ok (.aload_n 0, 1) := by decide +kernel
theorem dX4_runCell_17 : decode cX4_runCell 17 = .ok (.invokevirtual 102, 3) := by decide +kernel
theorem dX4_runCell_20 : decode cX4_runCell 20 = .ok (.aload_n 0, 1) := by decide +kernel
theorem dX4_runCell_21 : decode cX4_runCell 21 = .ok (.getfield 22, 3) := by decide +kernel
theorem dX4_runCell_24 : decode cX4_runCell 24 = .ok (.iload_n 1, 1) := by decide +kernel
theorem dX4_runCell_25 : decode cX4_runCell 25 = .ok (.iaload, 1) := by decide +kernel
theorem dX4_runCell_26 : decode cX4_runCell 26 = .ok (.ifCond .eq 11, 3) := by decide +kernel
theorem dX4_runCell_29 : decode cX4_runCell 29 = .ok (.aload_n 0, 1) := by decide +kernel
theorem dX4_runCell_30 : decode cX4_runCell 30 = .ok (.sipush (-10003), 3) := by decide +kernel
theorem dX4_runCell_33 : decode cX4_runCell 33 = .ok (.invokevirtual 118, 3) := by decide +kernel
theorem dX4_runCell_36 : decode cX4_runCell 36 = .ok (.ireturn, 1) := by decide +kernel
theorem dX4_runCell_37 : decode cX4_runCell 37 = .ok (.aload_n 0, 1) := by decide +kernel
theorem dX4_runCell_38 : decode cX4_runCell 38 = .ok (.invokevirtual 112, 3) := by decide +kernel
theorem dX4_runCell_41 : decode cX4_runCell 41 = .ok (.aload_n 0, 1) := by decide +kernel
theorem dX4_runCell_42 : decode cX4_runCell 42 = .ok (.aload_n 0, 1) := by decide +kernel
theorem dX4_runCell_43 : decode cX4_runCell 43 = .ok (.getfield 25, 3) := by decide +kernel
theorem dX4_runCell_46 : decode cX4_runCell 46 = .ok (.iload_n 1, 1) := by decide +kernel
theorem dX4_runCell_47 : decode cX4_runCell 47 = .ok (.iaload, 1) := by decide +kernel
theorem dX4_runCell_48 : decode cX4_runCell 48 = .ok (.iconst 1, 1) := by decide +kernel
theorem dX4_runCell_49 : decode cX4_runCell 49 = .ok (.iload_n 1, 1) := by decide +kernel
theorem dX4_runCell_50 : decode cX4_runCell 50 = .ok (.ishl, 1) := by decide +kernel
theorem dX4_runCell_51 : decode cX4_runCell 51 = .ok (.ior, 1) := by decide +kernel
theorem dX4_runCell_52 : decode cX4_runCell 52 = .ok (.invokevirtual 109, 3) := by decide +kernel
theorem dX4_runCell_55 : decode cX4_runCell 55 = .ok (.aload_n 0, 1) := by decide +kernel
theorem dX4_runCell_56 : decode cX4_runCell 56 = .ok (.getfield 7, 3) := by decide +kernel
theorem dX4_runCell_59 : decode cX4_runCell 59 = .ok (.iconst 4, 1) := by decide +kernel
theorem dX4_runCell_60 : decode cX4_runCell 60 = .ok (.iaload, 1) := by decide +kernel
theorem dX4_runCell_61 : decode cX4_runCell 61 = .ok (.ireturn, 1) := by decide +kernel
theorem dX4_lastRunCount_0 : decode cX4_lastRunCount 0 = .ok (.aload_n 0, 1) := by decide +kernel
theorem dX4_lastRunCount_1 : decode cX4_lastRunCount 1 = .ok (.getfield 7, 3) := by decide +kernel
theorem dX4_lastRunCount_4 : decode cX4_lastRunCount 4 = .ok (.iconst 4, 1) := by decide +kernel
theorem dX4_lastRunCount_5 : decode cX4_lastRunCount 5 = .ok (.iaload, 1) := by decide +kernel
theorem dX4_lastRunCount_6 : decode cX4_lastRunCount 6 = .ok (.ireturn, 1) := by decide +kernel
theorem dX4_lastRun_0 : decode cX4_lastRun 0 = .ok (.iload_n 1, 1) := by decide +kernel
theorem dX4_lastRun_1 : decode cX4_lastRun 1 = .ok (.ifCond .ge 11, 3) := by decide +kernel
theorem dX4_lastRun_4 : decode cX4_lastRun 4 = .ok (.aload_n 0, 1) := by decide +kernel
theorem dX4_lastRun_5 : decode cX4_lastRun 5 = .ok (.sipush (-10002), 3) := by decide +kernel
theorem dX4_lastRun_8 : decode cX4_lastRun 8 = .ok (.invokevirtual 118, 3) := by decide +kernel
theorem dX4_lastRun_11 : decode cX4_lastRun 11 = .ok (.ireturn, 1) := by decide +kernel
theorem dX4_lastRun_12 : decode cX4_lastRun 12 = .ok (.iload_n 1, 1) := by decide +kernel
theorem dX4_lastRun_13 : decode cX4_lastRun 13 = .ok (.aload_n 0, 1) := by decide +kernel
theorem dX4_lastRun_14 : decode cX4_lastRun 14 = .ok (.getfield 7, 3) := by decide +kernel
theorem dX4_lastRun_17 : decode cX4_lastRun 17 = .ok (.iconst 4, 1) := by decide +kernel
theorem dX4_lastRun_18 : decode cX4_lastRun 18 = .ok (.iaload, 1) := by decide +kernel
theorem dX4_lastRun_19 : decode cX4_lastRun 19 = .ok (.if_icmp .ge 14, 3) := by decide +kernel
theorem dX4_lastRun_22 : decode cX4_lastRun 22 = .ok (.aload_n 0, 1) := by decide +kernel
theorem dX4_lastRun_23 : decode cX4_lastRun 23 = .ok (.getfield 7, 3) := by decide +kernel
theorem dX4_lastRun_26 : decode cX4_lastRun 26 = .ok (.iconst 5, 1) := by decide +kernel
theorem dX4_lastRun_27 : decode cX4_lastRun 27 = .ok (.iload_n 1, 1) := by decide +kernel
theorem dX4_lastRun_28 : decode cX4_lastRun 28 = .ok (.iadd, 1) := by decide +kernel
theorem dX4_lastRun_29 : decode cX4_lastRun 29 = .ok (.iaload, 1) := by decide +kernel
theorem dX4_lastRun_30 : decode cX4_lastRun 30 = .ok (.goto 6, 3) := by decide +kernel
theorem dX4_lastRun_33 : decode cX4_lastRun 33 = .ok (.sipush (-10001), 3) := by decide +kernel
theorem dX4_lastRun_36 : decode cX4_lastRun 36 = .ok (.ireturn, 1) := by decide +kernel
theorem dX4_isDefinition_0 : decode cX4_isDefinition 0 = .ok (.iload_n 0, 1) := by decide +kernel
theorem dX4_isDefinition_1 : decode cX4_isDefinition 1 = .ok (.iconst 0, 1) := by decide +kernel
theorem dX4_isDefinition_2 : decode cX4_isDefinition 2 = .ok (.bipush 9, 2) := by decide +kernel
theorem dX4_isDefinition_4 : decode cX4_isDefinition 4 = .ok (.invokestatic 42, 3) := by decide +kernel
theorem dX4_isDefinition_7 : decode cX4_isDefinition 7 = .ok (.ifCond .eq 36, 3) := by decide +kernel
theorem dX4_isDefinition_10 : decode cX4_isDefinition 10 = .ok (.iload_n 1, 1) := by decide +kernel
theorem dX4_isDefinition_11 : decode cX4_isDefinition 11 = .ok (.iconst 0, 1) := by decide +kernel
theorem dX4_isDefinition_12 : decode cX4_isDefinition 12 = .ok (.iconst 5, 1) := by decide +kernel
theorem dX4_isDefinition_13 : decode cX4_isDefinition 13 = .ok (.invokestatic 42, 3) := by decide +kernel
theorem dX4_isDefinition_16 : decode cX4_isDefinition 16 = .ok (.ifCond .eq 27, 3) := by decide +kernel
theorem dX4_isDefinition_19 : decode cX4_isDefinition 19 = .ok (.iload_n 2, 1) := by decide +kernel
theorem dX4_isDefinition_20 : decode cX4_isDefinition 20 = .ok (.iconst 0, 1) := by decide +kernel
theorem dX4_isDefinition_21 : decode cX4_isDefinition 21 = .ok (.bipush 109, 2) := by decide +kernel
theorem dX4_isDefinition_23 : decode cX4_isDefinition 23 = .ok (.invokestatic 42, 3) := by decide +kernel
theorem dX4_isDefinition_26 : decode cX4_isDefinition 26 = .ok (.ifCond .eq 17, 3) := by decide +kernel
theorem dX4_isDefinition_29 : decode cX4_isDefinition 29 = .ok (.iload_n 3, 1) := by decide +kernel
theorem dX4_isDefinition_30 : decode cX4_isDefinition 30 = .ok (.iconst 0, 1) := by decide +kernel
theorem dX4_isDefinition_31 : decode cX4_isDefinition 31 = .ok (.bipush 109, 2) := by decide +kernel
theorem dX4_isDefinition_33 : decode cX4_isDefinition 33 = .ok (.invokestatic 42, 3) := by decide +kernel
theorem dX4_isDefinition_36 : decode cX4_isDefinition 36 = .ok (.ifCond .eq 7, 3) := by decide +kernel
theorem dX4_isDefinition_39 : decode cX4_isDefinition 39 = .ok (.iconst 1, 1) := by decide +kernel
theorem dX4_isDefinition_40 : decode cX4_isDefinition 40 = .ok (.goto 4, 3) := by decide +kernel
theorem dX4_isDefinition_43 : decode cX4_isDefinition 43 = .ok (.iconst 0, 1) := by decide +kernel
theorem dX4_isDefinition_44 : decode cX4_isDefinition 44 = .ok (.ireturn, 1) := by decide +kernel
theorem dX4_define_0 : decode cX4_define 0 = .ok (.aload_n 0, 1) := by decide +kernel
theorem dX4_define_1 : decode cX4_define 1 = .ok (.getfield 7, 3) := by decide +kernel
theorem dX4_define_4 : decode cX4_define 4 = .ok (.iload_n 1, 1) := by decide +kernel
theorem dX4_define_5 : decode cX4_define 5 = .ok (.iconst 0, 1) := by decide +kernel
theorem dX4_define_6 : decode cX4_define 6 = .ok (.invokestatic 38, 3) := by decide +kernel
theorem dX4_define_9 : decode cX4_define 9 = .ok (.iload_n 2, 1) := by decide +kernel
theorem dX4_define_10 : decode cX4_define 10 = .ok (.iastore, 1) := by decide +kernel
theorem dX4_define_11 : decode cX4_define 11 = .ok (.aload_n 0, 1) := by decide +kernel
theorem dX4_define_12 : decode cX4_define 12 = .ok (.getfield 7, 3) := by decide +kernel
theorem dX4_define_15 : decode cX4_define 15 = .ok (.iload_n 1, 1) := by decide +kernel
theorem dX4_define_16 : decode cX4_define 16 = .ok (.iconst 1, 1) := by decide +kernel
theorem dX4_define_17 : decode cX4_define 17 = .ok (.invokestatic 38, 3) := by decide +kernel
theorem dX4_define_20 : decode cX4_define 20 = .ok (.iload_n 3, 1) := by decide +kernel
theorem dX4_define_21 : decode cX4_define 21 = .ok (.iastore, 1) := by decide +kernel
theorem dX4_define_22 : decode cX4_define 22 = .ok (.aload_n 0, 1) := by decide +kernel
theorem dX4_define_23 : decode cX4_define 23 = .ok (.getfield 7, 3) := by decide +kernel
theorem dX4_define_26 : decode cX4_define 26 = .ok (.iload_n 1, 1) := by decide +kernel
theorem dX4_define_27 : decode cX4_define 27 = .ok (.iconst 2, 1) := by decide +kernel
theorem dX4_define_28 : decode cX4_define 28 = .ok (.invokestatic 38, 3) := by decide +kernel
theorem dX4_define_31 : decode cX4_define 31 = .ok (.iload 4, 2) := by decide +kernel
theorem dX4_define_33 : decode cX4_define 33 = .ok (.iastore, 1) := by decide +kernel
theorem dX4_define_34 : decode cX4_define 34 = .ok (.aload_n 0, 1) := by decide +kernel
theorem dX4_define_35 : decode cX4_define 35 = .ok (.getfield 7, 3) := by decide +kernel
theorem dX4_define_38 : decode cX4_define 38 = .ok (.iload_n 1, 1) := by decide +kernel
theorem dX4_define_39 : decode cX4_define 39 = .ok (.iconst 3, 1) := by decide +kernel
theorem dX4_define_40 : decode cX4_define 40 = .ok (.invokestatic 38, 3) := by decide +kernel
theorem dX4_define_43 : decode cX4_define 43 = .ok (.iload 5, 2) := by decide +kernel
theorem dX4_define_45 : decode cX4_define 45 = .ok (.iastore, 1) := by decide +kernel
theorem dX4_define_46 : decode cX4_define 46 = .ok (.aload_n 0, 1) := by decide +kernel
theorem dX4_define_47 : decode cX4_define 47 = .ok (.getfield 7, 3) := by decide +kernel
theorem dX4_define_50 : decode cX4_define 50 = .ok (.iload_n 1, 1) := by decide +kernel
theorem dX4_define_51 : decode cX4_define 51 = .ok (.iconst 4, 1) := by decide +kernel
theorem dX4_define_52 : decode cX4_define 52 = .ok (.invokestatic 38, 3) := by decide +kernel
theorem dX4_define_55 : decode cX4_define 55 = .ok (.iconst 0, 1) := by decide +kernel
theorem dX4_define_56 : decode cX4_define 56 = .ok (.iastore, 1) := by decide +kernel
theorem dX4_define_57 : decode cX4_define 57 = .ok (.aload_n 0, 1) := by decide +kernel
theorem dX4_define_58 : decode cX4_define 58 = .ok (.getfield 7, 3) := by decide +kernel
theorem dX4_define_61 : decode cX4_define 61 = .ok (.iload_n 1, 1) := by decide +kernel
theorem dX4_define_62 : decode cX4_define 62 = .ok (.iconst 5, 1) := by decide +kernel
theorem dX4_define_63 : decode cX4_define 63 = .ok (.invokestatic 38, 3) := by decide +kernel
theorem dX4_define_66 : decode cX4_define 66 = .ok (.iconst 0, 1) := by decide +kernel
theorem dX4_define_67 : decode cX4_define 67 = .ok (.iastore, 1) := by decide +kernel
theorem dX4_define_68 : decode cX4_define 68 = .ok (.aload_n 0, 1) := by decide +kernel
theorem dX4_define_69 : decode cX4_define 69 = .ok (.getfield 7, 3) := by decide +kernel
theorem dX4_define_72 : decode cX4_define 72 = .ok (.iload_n 1, 1) := by decide +kernel
theorem dX4_define_73 : decode cX4_define 73 = .ok (.bipush 6, 2) := by decide +kernel
theorem dX4_define_75 : decode cX4_define 75 = .ok (.invokestatic 38, 3) := by decide +kernel
theorem dX4_define_78 : decode cX4_define 78 = .ok (.iconst 0, 1) := by decide +kernel
theorem dX4_define_79 : decode cX4_define 79 = .ok (.iastore, 1) := by decide +kernel
theorem dX4_define_80 : decode cX4_define 80 = .ok (.aload_n 0, 1) := by decide +kernel
theorem dX4_define_81 : decode cX4_define 81 = .ok (.getfield 7, 3) := by decide +kernel
theorem dX4_define_84 : decode cX4_define 84 = .ok (.iload_n 1, 1) := by decide +kernel
theorem dX4_define_85 : decode cX4_define 85 = .ok (.bipush 7, 2) := by decide +kernel
theorem dX4_define_87 : decode cX4_define 87 = .ok (.invokestatic 38, 3) := by decide +kernel
theorem dX4_define_90 : decode cX4_define 90 = .ok (.iconst 0, 1) := by decide +kernel
theorem dX4_define_91 : decode cX4_define 91 = .ok (.iastore, 1) := by decide +kernel
theorem dX4_define_92 : decode cX4_define 92 = .ok (.return_, 1) := by decide +kernel
theorem dX4_addCell_0 : decode cX4_addCell 0 = .ok (.iload_n 1, 1) := by decide +kernel
theorem dX4_addCell_1 : decode cX4_addCell 1 = .ok (.iload_n 2, 1) := by decide +kernel
theorem dX4_addCell_2 : decode cX4_addCell 2 = .ok (.iload_n 3, 1) := by decide +kernel
theorem dX4_addCell_3 : decode cX4_addCell 3 = .ok (.iload 4, 2) := by decide +kernel
theorem dX4_addCell_5 : decode cX4_addCell 5 = .ok (.invokestatic 121, 3) := by decide +kernel
theorem dX4_addCell_8 : decode cX4_addCell 8 = .ok (.ifCond .ne 11, 3) := by decide +kernel
theorem dX4_addCell_11 : decode cX4_addCell 11 = .ok (.aload_n 0, 1) := by decide +kernel
theorem dX4_addCell_12 : decode cX4_addCell 12 = .ok (.sipush (-10002), 3) := by decide +kernel
theorem dX4_addCell_15 : decode cX4_addCell 15 = .ok (.invokevirtual 118, 3) := by decide +kernel
theorem dX4_addCell_18 : decode cX4_addCell 18 = .ok (.ireturn, 1) := by decide +kernel
theorem dX4_addCell_19 : decode cX4_addCell 19 = .ok (.aload_n 0, 1) := by decide +kernel
theorem dX4_addCell_20 : decode cX4_addCell 20 = .ok (.getfield 7, 3) := by decide +kernel
theorem dX4_addCell_23 : decode cX4_addCell 23 = .ok (.iconst 0, 1) := by decide +kernel
theorem dX4_addCell_24 : decode cX4_addCell 24 = .ok (.iaload, 1) := by decide +kernel
theorem dX4_addCell_25 : decode cX4_addCell 25 = .ok (.bipush 12, 2) := by decide +kernel
theorem dX4_addCell_27 : decode cX4_addCell 27 = .ok (.if_icmp .ne 11, 3) := by decide +kernel
theorem dX4_addCell_30 : decode cX4_addCell 30 = .ok (.aload_n 0, 1) := by decide +kernel
theorem dX4_addCell_31 : decode cX4_addCell 31 = .ok (.sipush (-10004), 3) := by decide +kernel
theorem dX4_addCell_34 : decode cX4_addCell 34 = .ok (.invokevirtual 118, 3) := by decide +kernel
theorem dX4_addCell_37 : decode cX4_addCell 37 = .ok (.ireturn, 1) := by decide +kernel
theorem dX4_addCell_38 : decode cX4_addCell 38 = .ok (.aload_n 0, 1) := by decide +kernel
theorem dX4_addCell_39 : decode cX4_addCell 39 = .ok (.invokevirtual 112, 3) := by decide +kernel
theorem dX4_addCell_42 : decode cX4_addCell 42 = .ok (.aload_n 0, 1) := by decide +kernel
theorem dX4_addCell_43 : decode cX4_addCell 43 = .ok (.getfield 7, 3) := by decide +kernel
theorem dX4_addCell_46 : decode cX4_addCell 46 = .ok (.iconst 0, 1) := by decide +kernel
theorem dX4_addCell_47 : decode cX4_addCell 47 = .ok (.iaload, 1) := by decide +kernel
theorem dX4_addCell_48 : decode cX4_addCell 48 = .ok (.istore 5, 2) := by decide +kernel
theorem dX4_addCell_50 : decode cX4_addCell 50 = .ok (.aload_n 0, 1) := by decide +kernel
theorem dX4_addCell_51 : decode cX4_addCell 51 = .ok (.iload 5, 2) := by decide +kernel
theorem dX4_addCell_53 : decode cX4_addCell 53 = .ok (.iload_n 1, 1) := by decide +kernel
theorem dX4_addCell_54 : decode cX4_addCell 54 = .ok (.iload_n 2, 1) := by decide +kernel
theorem dX4_addCell_55 : decode cX4_addCell 55 = .ok (.iload_n 3, 1) := by decide +kernel
theorem dX4_addCell_56 : decode cX4_addCell 56 = .ok (.iload 4, 2) := by decide +kernel
theorem dX4_addCell_58 : decode cX4_addCell 58 = .ok (.invokevirtual 125, 3) := by decide +kernel
theorem dX4_addCell_61 : decode cX4_addCell 61 = .ok (.aload_n 0, 1) := by decide +kernel
theorem dX4_addCell_62 : decode cX4_addCell 62 = .ok (.getfield 7, 3) := by decide +kernel
theorem dX4_addCell_65 : decode cX4_addCell 65 = .ok (.iload 5, 2) := by decide +kernel
theorem dX4_addCell_67 : decode cX4_addCell 67 = .ok (.bipush 8, 2) := by decide +kernel
theorem dX4_addCell_69 : decode cX4_addCell 69 = .ok (.invokestatic 38, 3) := by decide +kernel
theorem dX4_addCell_72 : decode cX4_addCell 72 = .ok (.iconst 0, 1) := by decide +kernel
theorem dX4_addCell_73 : decode cX4_addCell 73 = .ok (.iastore, 1) := by decide +kernel
theorem dX4_addCell_74 : decode cX4_addCell 74 = .ok (.aload_n 0, 1) := by decide +kernel
theorem dX4_addCell_75 : decode cX4_addCell 75 = .ok (.getfield 7, 3) := by decide +kernel
theorem dX4_addCell_78 : decode cX4_addCell 78 = .ok (.iconst 0, 1) := by decide +kernel
theorem dX4_addCell_79 : decode cX4_addCell 79 = .ok (.dup2, 1) := by decide +kernel
theorem dX4_addCell_80 : decode cX4_addCell 80 = .ok (.iaload, 1) := by decide +kernel
theorem dX4_addCell_81 : decode cX4_addCell 81 = .ok (.iconst 1, 1) := by decide +kernel
theorem dX4_addCell_82 : decode cX4_addCell 82 = .ok (.iadd, 1) := by decide +kernel
theorem dX4_addCell_83 : decode cX4_addCell 83 = .ok (.iastore, 1) := by decide +kernel
theorem dX4_addCell_84 : decode cX4_addCell 84 = .ok (.aload_n 0, 1) := by decide +kernel
theorem dX4_addCell_85 : decode cX4_addCell 85 = .ok (.invokevirtual 129, 3) := by decide +kernel
theorem dX4_addCell_88 : decode cX4_addCell 88 = .ok (.iload 5, 2) := by decide +kernel
theorem dX4_addCell_90 : decode cX4_addCell 90 = .ok (.ireturn, 1) := by decide +kernel
theorem dX4_editCell_0 : decode cX4_editCell 0 = .ok (.aload_n 0, 1) := by decide +kernel
theorem dX4_editCell_1 : decode cX4_editCell 1 = .ok (.iload_n 1, 1) := by decide +kernel
theorem dX4_editCell_2 : decode cX4_editCell 2 = .ok (.invokevirtual 115, 3) := by decide +kernel
theorem dX4_editCell_5 : decode cX4_editCell 5 = .ok (.ifCond .eq 15, 3) := by decide +kernel
theorem dX4_editCell_8 : decode cX4_editCell 8 = .ok (.iload_n 2, 1) := by decide +kernel
theorem dX4_editCell_9 : decode cX4_editCell 9 = .ok (.iload_n 3, 1) := by decide +kernel
theorem dX4_editCell_10 : decode cX4_editCell 10 = .ok (.iload 4, 2) := by decide +kernel
theorem dX4_editCell_12 : decode cX4_editCell 12 = .ok (.iload 5, 2) := by decide +kernel
theorem dX4_editCell_14 : decode cX4_editCell 14 = .ok (.invokestatic 121, 3) := by decide +kernel
theorem dX4_editCell_17 : decode cX4_editCell 17 = .ok (.ifCond .ne 11, 3) := by decide +kernel
theorem dX4_editCell_20 : decode cX4_editCell 20 = .ok (.aload_n 0, 1) := by decide +kernel
theorem dX4_editCell_21 : decode cX4_editCell 21 = .ok (.sipush (-10002), 3) := by decide +kernel
theorem dX4_editCell_24 : decode cX4_editCell 24 = .ok (.invokevirtual 118, 3) := by decide +kernel
theorem dX4_editCell_27 : decode cX4_editCell 27 = .ok (.ireturn, 1) := by decide +kernel
theorem dX4_editCell_28 : decode cX4_editCell 28 = .ok (.aload_n 0, 1) := by decide +kernel
theorem dX4_editCell_29 : decode cX4_editCell 29 = .ok (.invokevirtual 112, 3) := by decide +kernel
theorem dX4_editCell_32 : decode cX4_editCell 32 = .ok (.aload_n 0, 1) := by decide +kernel
theorem dX4_editCell_33 : decode cX4_editCell 33 = .ok (.iload_n 1, 1) := by decide +kernel
theorem dX4_editCell_34 : decode cX4_editCell 34 = .ok (.iconst 0, 1) := by decide +kernel
theorem dX4_editCell_35 : decode cX4_editCell 35 = .ok (.invokevirtual 50, 3) := by decide +kernel
theorem dX4_editCell_38 : decode cX4_editCell 38 = .ok (.istore 6, 2) := by decide +kernel
theorem dX4_editCell_40 : decode cX4_editCell 40 = .ok (.aload_n 0, 1) := by decide +kernel
theorem dX4_editCell_41 : decode cX4_editCell 41 = .ok (.iload_n 1, 1) := by decide +kernel
theorem dX4_editCell_42 : decode cX4_editCell 42 = .ok (.iload_n 2, 1) := by decide +kernel
theorem dX4_editCell_43 : decode cX4_editCell 43 = .ok (.iload_n 3, 1) := by decide +kernel
theorem dX4_editCell_44 : decode cX4_editCell 44 = .ok (.iload 4, 2) := by decide +kernel
theorem dX4_editCell_46 : decode cX4_editCell 46 = .ok (.iload 5, 2) := by decide +kernel
theorem dX4_editCell_48 : decode cX4_editCell 48 = .ok (.invokevirtual 125, 3) := by decide +kernel
theorem dX4_editCell_51 : decode cX4_editCell 51 = .ok (.aload_n 0, 1) := by decide +kernel
theorem dX4_editCell_52 : decode cX4_editCell 52 = .ok (.invokevirtual 129, 3) := by decide +kernel
theorem dX4_editCell_55 : decode cX4_editCell 55 = .ok (.iload 6, 2) := by decide +kernel
theorem dX4_editCell_57 : decode cX4_editCell 57 = .ok (.ireturn, 1) := by decide +kernel
theorem dX4_copyCell_0 : decode cX4_copyCell 0 = .ok (.iconst 0, 1) := by decide +kernel
theorem dX4_copyCell_1 : decode cX4_copyCell 1 = .ok (.istore_n 3, 1) := by decide +kernel
theorem dX4_copyCell_2 : decode cX4_copyCell 2 = .ok (.iload_n 3, 1) := by decide +kernel
theorem dX4_copyCell_3 : decode cX4_copyCell 3 = .ok (.bipush 10, 2) := by decide +kernel
theorem dX4_copyCell_5 : decode cX4_copyCell 5 = .ok (.if_icmp .ge 29, 3) := by decide +kernel
theorem dX4_copyCell_8 : decode cX4_copyCell 8 = .ok (.aload_n 0, 1) := by decide +kernel
theorem dX4_copyCell_9 : decode cX4_copyCell 9 = .ok (.getfield 7, 3) := by decide +kernel
theorem dX4_copyCell_12 : decode cX4_copyCell 12 = .ok (.iload_n 2, 1) := by decide +kernel
theorem dX4_copyCell_13 : decode cX4_copyCell 13 = .ok (.iload_n 3, 1) := by decide +kernel
theorem dX4_copyCell_14 : decode cX4_copyCell 14 = .ok (.invokestatic 38, 3) := by decide +kernel
theorem dX4_copyCell_17 : decode cX4_copyCell 17 = .ok (.aload_n 0, 1) := by decide +kernel
theorem dX4_copyCell_18 : decode cX4_copyCell 18 = .ok (.getfield 7, 3) := by decide +kernel
theorem dX4_copyCell_21 : decode cX4_copyCell 21 = .ok (.iload_n 1, 1) := by decide +kernel
theorem dX4_copyCell_22 : decode cX4_copyCell 22 = .ok (.iload_n 3, 1) := by decide +kernel
theorem dX4_copyCell_23 : decode cX4_copyCell 23 = .ok (.invokestatic 38, 3) := by decide +kernel
theorem dX4_copyCell_26 : decode cX4_copyCell 26 = .ok (.iaload, 1) := by decide +kernel
theorem dX4_copyCell_27 : decode cX4_copyCell 27 = .ok (.iastore, 1) := by decide +kernel
theorem dX4_copyCell_28 : decode cX4_copyCell 28 = .ok (.iinc 3 1, 3) := by decide +kernel
theorem dX4_copyCell_31 : decode cX4_copyCell 31 = .ok (.goto (-29), 3) := by decide +kernel
theorem dX4_copyCell_34 : decode cX4_copyCell 34 = .ok (.return_, 1) := by decide +kernel
theorem dX4_deleteCell_0 : decode cX4_deleteCell 0 = .ok (.aload_n 0, 1) := by decide +kernel
theorem dX4_deleteCell_1 : decode cX4_deleteCell 1 = .ok (.iload_n 1, 1) := by decide +kernel
theorem dX4_deleteCell_2 : decode cX4_deleteCell 2 = .ok (.invokevirtual 115, 3) := by decide +kernel
theorem dX4_deleteCell_5 : decode cX4_deleteCell 5 = .ok (.ifCond .ne 11, 3) := by decide +kernel
theorem dX4_deleteCell_8 : decode cX4_deleteCell 8 = .ok (.aload_n 0, 1) := by decide +kernel
theorem dX4_deleteCell_9 : decode cX4_deleteCell 9 = .ok (.sipush (-10002), 3) := by decide +kernel
theorem dX4_deleteCell_12 : decode cX4_deleteCell 12 = .ok (.invokevirtual 118, 3) := by decide +kernel
theorem dX4_deleteCell_15 : decode cX4_deleteCell 15 = .ok (.ireturn, 1) := by decide +kernel
theorem dX4_deleteCell_16 : decode cX4_deleteCell 16 = .ok (.aload_n 0, 1) := by decide +kernel
theorem dX4_deleteCell_17 : decode cX4_deleteCell 17 = .ok (.invokevirtual 112, 3) := by decide +kernel
theorem dX4_deleteCell_20 : decode cX4_deleteCell 20 = .ok (.aload_n 0, 1) := by decide +kernel
theorem dX4_deleteCell_21 : decode cX4_deleteCell 21 = .ok (.getfield 7, 3) := by decide +kernel
theorem dX4_deleteCell_24 : decode cX4_deleteCell 24 = .ok (.iconst 0, 1) := by decide +kernel
theorem dX4_deleteCell_25 : decode cX4_deleteCell 25 = .ok (.dup2, 1) := by decide +kernel
theorem dX4_deleteCell_26 : decode cX4_deleteCell 26 = .ok (.iaload, 1) := by decide +kernel
theorem dX4_deleteCell_27 : decode cX4_deleteCell 27 = .ok (.iconst 1, 1) := by decide +kernel
theorem dX4_deleteCell_28 : decode cX4_deleteCell 28 = .ok (.isub, 1) := by decide +kernel
theorem dX4_deleteCell_29 : decode cX4_deleteCell 29 = .ok (.iastore, 1) := by decide +kernel
theorem dX4_deleteCell_30 : decode cX4_deleteCell 30 = .ok (.iload_n 1, 1) := by decide +kernel
theorem dX4_deleteCell_31 : decode cX4_deleteCell 31 = .ok (.istore_n 2, 1) := by decide +kernel
theorem dX4_deleteCell_32 : decode cX4_deleteCell 32 = .ok (.iload_n 2, 1) := by decide +kernel
theorem dX4_deleteCell_33 : decode cX4_deleteCell 33 = .ok (.aload_n 0, 1) := by decide +kernel
theorem dX4_deleteCell_34 : decode cX4_deleteCell 34 = .ok (.getfield 7, 3) := by decide +kernel
theorem dX4_deleteCell_37 : decode cX4_deleteCell 37 = .ok (.iconst 0, 1) := by decide +kernel
theorem dX4_deleteCell_38 : decode cX4_deleteCell 38 = .ok (.iaload, 1) := by decide +kernel
theorem dX4_deleteCell_39 : decode cX4_deleteCell 39 = .ok (.if_icmp .ge 17, 3) := by decide +kernel
theorem dX4_deleteCell_42 : decode cX4_deleteCell 42 = .ok (.aload_n 0, 1) := by decide +kernel
theorem dX4_deleteCell_43 : decode cX4_deleteCell 43 = .ok (.iload_n 2, 1) := by decide +kernel
theorem dX4_deleteCell_44 : decode cX4_deleteCell 44 = .ok (.iconst 1, 1) := by decide +kernel
theorem dX4_deleteCell_45 : decode cX4_deleteCell 45 = .ok (.iadd, 1) := by decide +kernel
theorem dX4_deleteCell_46 : decode cX4_deleteCell 46 = .ok (.iload_n 2, 1) := by decide +kernel
theorem dX4_deleteCell_47 : decode cX4_deleteCell 47 = .ok (.invokevirtual 132, 3) := by decide +kernel
theorem dX4_deleteCell_50 : decode cX4_deleteCell 50 = .ok (.iinc 2 1, 3) := by decide +kernel
theorem dX4_deleteCell_53 : decode cX4_deleteCell 53 = .ok (.goto (-21), 3) := by decide +kernel
theorem dX4_deleteCell_56 : decode cX4_deleteCell 56 = .ok (.aload_n 0, 1) := by decide +kernel
theorem dX4_deleteCell_57 : decode cX4_deleteCell 57 = .ok (.invokevirtual 129, 3) := by decide +kernel
theorem dX4_deleteCell_60 : decode cX4_deleteCell 60 = .ok (.aload_n 0, 1) := by decide +kernel
theorem dX4_deleteCell_61 : decode cX4_deleteCell 61 = .ok (.getfield 7, 3) := by decide +kernel
theorem dX4_deleteCell_64 : decode cX4_deleteCell 64 = .ok (.iconst 0, 1) := by decide +kernel
theorem dX4_deleteCell_65 : decode cX4_deleteCell 65 = .ok (.iaload, 1) := by decide +kernel
theorem dX4_deleteCell_66 : decode cX4_deleteCell 66 = .ok (.ireturn, 1) := by decide +kernel
theorem dX4_moveCell_0 : decode cX4_moveCell 0 = .ok (.aload_n 0, 1) := by decide +kernel
theorem dX4_moveCell_1 : decode cX4_moveCell 1 = .ok (.iload_n 1, 1) := by decide +kernel
theorem dX4_moveCell_2 : decode cX4_moveCell 2 = .ok (.invokevirtual 115, 3) := by decide +kernel
theorem dX4_moveCell_5 : decode cX4_moveCell 5 = .ok (.ifCond .eq 11, 3) := by decide +kernel
theorem dX4_moveCell_8 : decode cX4_moveCell 8 = .ok (.aload_n 0, 1) := by decide +kernel
theorem dX4_moveCell_9 : decode cX4_moveCell 9 = .ok (.iload_n 2, 1) := by decide +kernel
theorem dX4_moveCell_10 : decode cX4_moveCell 10 = .ok (.invokevirtual 115, 3) := by decide +kernel
theorem dX4_moveCell_13 : decode cX4_moveCell 13 = .ok (.ifCond .ne 11, 3) := by decide +kernel
theorem dX4_moveCell_16 : decode cX4_moveCell 16 = .ok (.aload_n 0, 1) := by decide +kernel
theorem dX4_moveCell_17 : decode cX4_moveCell 17 = .ok (.sipush (-10002), 3) := by decide +kernel
theorem dX4_moveCell_20 : decode cX4_moveCell 20 = .ok (.invokevirtual 118, 3) := by decide +kernel
theorem dX4_moveCell_23 : decode cX4_moveCell 23 = .ok (.ireturn, 1) := by decide +kernel
theorem dX4_moveCell_24 : decode cX4_moveCell 24 = .ok (.aload_n 0, 1) := by decide +kernel
theorem dX4_moveCell_25 : decode cX4_moveCell 25 = .ok (.invokevirtual 112, 3) := by decide +kernel
theorem dX4_moveCell_28 : decode cX4_moveCell 28 = .ok (.iconst 0, 1) := by decide +kernel
theorem dX4_moveCell_29 : decode cX4_moveCell 29 = .ok (.istore_n 3, 1) := by decide +kernel
theorem dX4_moveCell_30 : decode cX4_moveCell 30 = .ok (.iload_n 3, 1) := by decide +kernel
theorem dX4_moveCell_31 : decode cX4_moveCell 31 = .ok (.bipush 10, 2) := by decide +kernel
theorem dX4_moveCell_33 : decode cX4_moveCell 33 = .ok (.if_icmp .ge 21, 3) := by decide +kernel
theorem dX4_moveCell_36 : decode cX4_moveCell 36 = .ok (.aload_n 0, 1) := by decide +kernel
theorem dX4_moveCell_37 : decode cX4_moveCell 37 = .ok (.getfield 35, 3) := by decide +kernel
theorem dX4_moveCell_40 : decode cX4_moveCell 40 = .ok (.iload_n 3, 1) := by decide +kernel
theorem dX4_moveCell_41 : decode cX4_moveCell 41 = .ok (.aload_n 0, 1) := by decide +kernel
theorem dX4_moveCell_42 : decode cX4_moveCell 42 = .ok (.iload_n 1, 1) := by decide +kernel
theorem dX4_moveCell_43 : decode cX4_moveCell 43 = .ok (.iload_n 3, 1) := by decide +kernel
theorem dX4_moveCell_44 : decode cX4_moveCell 44 = .ok (.invokevirtual 50, 3) := by decide +kernel
theorem dX4_moveCell_47 : decode cX4_moveCell 47 = .ok (.iastore, 1) := by decide +kernel
theorem dX4_moveCell_48 : decode cX4_moveCell 48 = .ok (.iinc 3 1, 3) := by decide +kernel
theorem dX4_moveCell_51 : decode cX4_moveCell 51 = .ok (.goto (-21), 3) := by decide +kernel
theorem dX4_moveCell_54 : decode cX4_moveCell 54 = .ok (.iload_n 2, 1) := by decide +kernel
theorem dX4_moveCell_55 : decode cX4_moveCell 55 = .ok (.iload_n 1, 1) := by decide +kernel
theorem dX4_moveCell_56 : decode cX4_moveCell 56 = .ok (.if_icmp .le 7, 3) := by decide +kernel
theorem dX4_moveCell_59 : decode cX4_moveCell 59 = .ok (.iconst 1, 1) := by decide +kernel
theorem dX4_moveCell_60 : decode cX4_moveCell 60 = .ok (.goto 4, 3) := by decide +kernel
theorem dX4_moveCell_63 : decode cX4_moveCell 63 = .ok (.iconst (-1), 1) := by decide +kernel
theorem dX4_moveCell_64 : decode cX4_moveCell 64 = .ok (.istore_n 3, 1) := by decide +kernel
theorem dX4_moveCell_65 : decode cX4_moveCell 65 = .ok (.iconst 0, 1) := by decide +kernel
theorem dX4_moveCell_66 : decode cX4_moveCell 66 = .ok (.istore 4, 2) := by decide +kernel
theorem dX4_moveCell_68 : decode cX4_moveCell 68 = .ok (.iload_n 1, 1) := by decide +kernel
theorem dX4_moveCell_69 : decode cX4_moveCell 69 = .ok (.istore 5, 2) := by decide +kernel
theorem dX4_moveCell_71 : decode cX4_moveCell 71 = .ok (.iload 5, 2) := by decide +kernel
theorem dX4_moveCell_73 : decode cX4_moveCell 73 = .ok (.iload_n 2, 1) := by decide +kernel
theorem dX4_moveCell_74 : decode cX4_moveCell 74 = .ok (.if_icmp .eq 25, 3) := by decide +kernel
theorem dX4_moveCell_77 : decode cX4_moveCell 77 = .ok (.aload_n 0, 1) := by decide +kernel
theorem dX4_moveCell_78 : decode cX4_moveCell 78 = .ok (.iload 5, 2) := by decide +kernel
theorem dX4_moveCell_80 : decode cX4_moveCell 80 = .ok (.iload_n 3, 1) := by decide +kernel
theorem dX4_moveCell_81 : decode cX4_moveCell 81 = .ok (.iadd, 1) := by decide +kernel
theorem dX4_moveCell_82 : decode cX4_moveCell 82 = .ok (.iload 5, 2) := by decide +kernel
theorem dX4_moveCell_84 : decode cX4_moveCell 84 = .ok (.invokevirtual 132, 3) := by decide +kernel
theorem dX4_moveCell_87 : decode cX4_moveCell 87 = .ok (.iinc 4 1, 3) := by decide +kernel
theorem dX4_moveCell_90 : decode cX4_moveCell 90 = .ok (.iload 5, 2) := by decide +kernel
theorem dX4_moveCell_92 : decode cX4_moveCell 92 = .ok (.iload_n 3, 1) := by decide +kernel
theorem dX4_moveCell_93 : decode cX4_moveCell 93 = .ok (.iadd, 1) := by decide +kernel
theorem dX4_moveCell_94 : decode cX4_moveCell 94 = .ok (.istore 5, 2) := by decide +kernel
theorem dX4_moveCell_96 : decode cX4_moveCell 96 = .ok (.goto (-25), 3) := by decide +kernel
theorem dX4_moveCell_99 : decode cX4_moveCell 99 = .ok (.iconst 0, 1) := by decide +kernel
theorem dX4_moveCell_100 : decode cX4_moveCell 100 = .ok (.istore 5, 2) := by decide +kernel
theorem dX4_moveCell_102 : decode cX4_moveCell 102 = .ok (.iload 5, 2) := by decide +kernel
theorem dX4_moveCell_104 : decode cX4_moveCell 104 = .ok (.bipush 10, 2) := by decide +kernel
theorem dX4_moveCell_106 : decode cX4_moveCell 106 = .ok (.if_icmp .ge 27, 3) := by decide +kernel
theorem dX4_moveCell_109 : decode cX4_moveCell 109 = .ok (.aload_n 0, 1) := by decide +kernel
theorem dX4_moveCell_110 : decode cX4_moveCell 110 = .ok (.getfield 7, 3) := by decide +kernel
theorem dX4_moveCell_113 : decode cX4_moveCell 113 = .ok (.iload_n 2, 1) := by decide +kernel
theorem dX4_moveCell_114 : decode cX4_moveCell 114 = .ok (.iload 5, 2) := by decide +kernel
theorem dX4_moveCell_116 : decode cX4_moveCell 116 = .ok (.invokestatic 38, 3) := by decide +kernel
theorem dX4_moveCell_119 : decode cX4_moveCell 119 = .ok (.aload_n 0, 1) := by decide +kernel
theorem dX4_moveCell_120 : decode cX4_moveCell 120 = .ok (.getfield 35, 3) := by decide +kernel
theorem dX4_moveCell_123 : decode cX4_moveCell 123 = .ok (.iload 5, 2) := by decide +kernel
theorem dX4_moveCell_125 : decode cX4_moveCell 125 = .ok (.iaload, 1) := by decide +kernel
theorem dX4_moveCell_126 : decode cX4_moveCell 126 = .ok (.iastore, 1) := by decide +kernel
theorem dX4_moveCell_127 : decode cX4_moveCell 127 = .ok (.iinc 5 1, 3) := by decide +kernel
theorem dX4_moveCell_130 : decode cX4_moveCell 130 = .ok (.goto (-28), 3) := by decide +kernel
theorem dX4_moveCell_133 : decode cX4_moveCell 133 = .ok (.aload_n 0, 1) := by decide +kernel
theorem dX4_moveCell_134 : decode cX4_moveCell 134 = .ok (.invokevirtual 129, 3) := by decide +kernel
theorem dX4_moveCell_137 : decode cX4_moveCell 137 = .ok (.iload 4, 2) := by decide +kernel
theorem dX4_moveCell_139 : decode cX4_moveCell 139 = .ok (.ifCond .ne 7, 3) := by decide +kernel
theorem dX4_moveCell_142 : decode cX4_moveCell 142 = .ok (.iconst 0, 1) := by decide +kernel
theorem dX4_moveCell_143 : decode cX4_moveCell 143 = .ok (.goto 7, 3) := by decide +kernel
theorem dX4_moveCell_146 : decode cX4_moveCell 146 = .ok (.iload 4, 2) := by decide +kernel
theorem dX4_moveCell_148 : decode cX4_moveCell 148 = .ok (.iconst 1, 1) := by decide +kernel
theorem dX4_moveCell_149 : decode cX4_moveCell 149 = .ok (.iadd, 1) := by decide +kernel
theorem dX4_moveCell_150 : decode cX4_moveCell 150 = .ok (.ireturn, 1) := by decide +kernel
end
section
theorem dX4_setEager_0 : decode cX4_setEager 0 = .ok (.iload_n 1, 1) := by decide +kernel
theorem dX4_setEager_1 : decode cX4_setEager 1 = .ok (.iconst 0, 1) := by decide +kernel
theorem dX4_setEager_2 : decode cX4_setEager 2 = .ok (.iconst 1, 1) := by decide +kernel
theorem dX4_setEager_3 : decode cX4_setEager 3 = .ok (.invokestatic 42, 3) := by decide +kernel
theorem dX4_setEager_6 : decode cX4_setEager 6 = .ok (.ifCond .ne 11, 3) := by decide +kernel
theorem dX4_setEager_9 : decode cX4_setEager 9 = .ok (.aload_n 0, 1) := by decide +kernel
theorem dX4_setEager_10 : decode cX4_setEager 10 = .ok (.sipush (-10002), 3) := by decide +kernel
theorem dX4_setEager_13 : decode cX4_setEager 13 = .ok (.invokevirtual 118, 3) := by decide +kernel
theorem dX4_setEager_16 : decode cX4_setEager 16 = .ok (.ireturn, 1) := by decide +kernel
theorem dX4_setEager_17 : decode cX4_setEager 17 = .ok (.aload_n 0, 1) := by decide +kernel
theorem dX4_setEager_18 : decode cX4_setEager 18 = .ok (.invokevirtual 112, 3) := by decide +kernel
theorem dX4_setEager_21 : decode cX4_setEager 21 = .ok (.aload_n 0, 1) := by decide +kernel
theorem dX4_setEager_22 : decode cX4_setEager 22 = .ok (.getfield 7, 3) := by decide +kernel
theorem dX4_setEager_25 : decode cX4_setEager 25 = .ok (.iconst 1, 1) := by decide +kernel
theorem dX4_setEager_26 : decode cX4_setEager 26 = .ok (.iaload, 1) := by decide +kernel
theorem dX4_setEager_27 : decode cX4_setEager 27 = .ok (.istore_n 2, 1) := by decide +kernel
theorem dX4_setEager_28 : decode cX4_setEager 28 = .ok (.aload_n 0, 1) := by decide +kernel
theorem dX4_setEager_29 : decode cX4_setEager 29 = .ok (.getfield 7, 3) := by decide +kernel
theorem dX4_setEager_32 : decode cX4_setEager 32 = .ok (.iconst 1, 1) := by decide +kernel
theorem dX4_setEager_33 : decode cX4_setEager 33 = .ok (.iload_n 1, 1) := by decide +kernel
theorem dX4_setEager_34 : decode cX4_setEager 34 = .ok (.iastore, 1) := by decide +kernel
theorem dX4_setEager_35 : decode cX4_setEager 35 = .ok (.aload_n 0, 1) := by decide +kernel
theorem dX4_setEager_36 : decode cX4_setEager 36 = .ok (.invokevirtual 129, 3) := by decide +kernel
theorem dX4_setEager_39 : decode cX4_setEager 39 = .ok (.iload_n 2, 1) := by decide +kernel
theorem dX4_setEager_40 : decode cX4_setEager 40 = .ok (.ireturn, 1) := by decide +kernel
theorem dX4_cellCount_0 : decode cX4_cellCount 0 = .ok (.aload_n 0, 1) := by decide +kernel
theorem dX4_cellCount_1 : decode cX4_cellCount 1 = .ok (.getfield 7, 3) := by decide +kernel
theorem dX4_cellCount_4 : decode cX4_cellCount 4 = .ok (.iconst 0, 1) := by decide +kernel
theorem dX4_cellCount_5 : decode cX4_cellCount 5 = .ok (.iaload, 1) := by decide +kernel
theorem dX4_cellCount_6 : decode cX4_cellCount 6 = .ok (.ireturn, 1) := by decide +kernel
theorem dX4_ofCell_0 : decode cX4_ofCell 0 = .ok (.aload_n 0, 1) := by decide +kernel
theorem dX4_ofCell_1 : decode cX4_ofCell 1 = .ok (.iload_n 1, 1) := by decide +kernel
theorem dX4_ofCell_2 : decode cX4_ofCell 2 = .ok (.invokevirtual 115, 3) := by decide +kernel
theorem dX4_ofCell_5 : decode cX4_ofCell 5 = .ok (.ifCond .eq 12, 3) := by decide +kernel
theorem dX4_ofCell_8 : decode cX4_ofCell 8 = .ok (.aload_n 0, 1) := by decide +kernel
theorem dX4_ofCell_9 : decode cX4_ofCell 9 = .ok (.iload_n 1, 1) := by decide +kernel
theorem dX4_ofCell_10 : decode cX4_ofCell 10 = .ok (.iload_n 2, 1) := by decide +kernel
theorem dX4_ofCell_11 : decode cX4_ofCell 11 = .ok (.invokevirtual 50, 3) := by decide +kernel
theorem dX4_ofCell_14 : decode cX4_ofCell 14 = .ok (.goto 10, 3) := by decide +kernel
theorem dX4_ofCell_17 : decode cX4_ofCell 17 = .ok (.aload_n 0, 1) := by decide +kernel
theorem dX4_ofCell_18 : decode cX4_ofCell 18 = .ok (.sipush (-10002), 3) := by decide +kernel
theorem dX4_ofCell_21 : decode cX4_ofCell 21 = .ok (.invokevirtual 118, 3) := by decide +kernel
theorem dX4_ofCell_24 : decode cX4_ofCell 24 = .ok (.ireturn, 1) := by decide +kernel
theorem dX4_variable_0 : decode cX4_variable 0 = .ok (.aload_n 0, 1) := by decide +kernel
theorem dX4_variable_1 : decode cX4_variable 1 = .ok (.iload_n 1, 1) := by decide +kernel
theorem dX4_variable_2 : decode cX4_variable 2 = .ok (.iconst 0, 1) := by decide +kernel
theorem dX4_variable_3 : decode cX4_variable 3 = .ok (.invokevirtual 136, 3) := by decide +kernel
theorem dX4_variable_6 : decode cX4_variable 6 = .ok (.ireturn, 1) := by decide +kernel
theorem dX4_statusOf_0 : decode cX4_statusOf 0 = .ok (.aload_n 0, 1) := by decide +kernel
theorem dX4_statusOf_1 : decode cX4_statusOf 1 = .ok (.getfield 22, 3) := by decide +kernel
theorem dX4_statusOf_4 : decode cX4_statusOf 4 = .ok (.iload_n 1, 1) := by decide +kernel
theorem dX4_statusOf_5 : decode cX4_statusOf 5 = .ok (.iaload, 1) := by decide +kernel
theorem dX4_statusOf_6 : decode cX4_statusOf 6 = .ok (.ifCond .eq 10, 3) := by decide +kernel
theorem dX4_statusOf_9 : decode cX4_statusOf 9 = .ok (.aload_n 0, 1) := by decide +kernel
theorem dX4_statusOf_10 : decode cX4_statusOf 10 = .ok (.getfield 22, 3) := by decide +kernel
theorem dX4_statusOf_13 : decode cX4_statusOf 13 = .ok (.iload_n 1, 1) := by decide +kernel
theorem dX4_statusOf_14 : decode cX4_statusOf 14 = .ok (.iaload, 1) := by decide +kernel
theorem dX4_statusOf_15 : decode cX4_statusOf 15 = .ok (.ireturn, 1) := by decide +kernel
theorem dX4_statusOf_16 : decode cX4_statusOf 16 = .ok (.aload_n 0, 1) := by decide +kernel
theorem dX4_statusOf_17 : decode cX4_statusOf 17 = .ok (.getfield 31, 3) := by decide +kernel
theorem dX4_statusOf_20 : decode cX4_statusOf 20 = .ok (.iload_n 1, 1) := by decide +kernel
theorem dX4_statusOf_21 : decode cX4_statusOf 21 = .ok (.baload, 1) := by decide +kernel
theorem dX4_statusOf_22 : decode cX4_statusOf 22 = .ok (.ifCond .ne 7, 3) := by decide +kernel
theorem dX4_statusOf_25 : decode cX4_statusOf 25 = .ok (.iconst 1, 1) := by decide +kernel
theorem dX4_statusOf_26 : decode cX4_statusOf 26 = .ok (.goto 29, 3) := by decide +kernel
theorem dX4_statusOf_29 : decode cX4_statusOf 29 = .ok (.aload_n 0, 1) := by decide +kernel
theorem dX4_statusOf_30 : decode cX4_statusOf 30 = .ok (.iload_n 1, 1) := by decide +kernel
theorem dX4_statusOf_31 : decode cX4_statusOf 31 = .ok (.iconst 4, 1) := by decide +kernel
theorem dX4_statusOf_32 : decode cX4_statusOf 32 = .ok (.invokevirtual 50, 3) := by decide +kernel
theorem dX4_statusOf_35 : decode cX4_statusOf 35 = .ok (.sipush 9999, 3) := by decide +kernel
theorem dX4_statusOf_38 : decode cX4_statusOf 38 = .ok (.if_icmp .le 16, 3) := by decide +kernel
theorem dX4_statusOf_41 : decode cX4_statusOf 41 = .ok (.aload_n 0, 1) := by decide +kernel
theorem dX4_statusOf_42 : decode cX4_statusOf 42 = .ok (.iload_n 1, 1) := by decide +kernel
theorem dX4_statusOf_43 : decode cX4_statusOf 43 = .ok (.iconst 4, 1) := by decide +kernel
theorem dX4_statusOf_44 : decode cX4_statusOf 44 = .ok (.invokevirtual 50, 3) := by decide +kernel
theorem dX4_statusOf_47 : decode cX4_statusOf 47 = .ok (.sipush 20000, 3) := by decide +kernel
theorem dX4_statusOf_50 : decode cX4_statusOf 50 = .ok (.isub, 1) := by decide +kernel
theorem dX4_statusOf_51 : decode cX4_statusOf 51 = .ok (.goto 4, 3) := by decide +kernel
theorem dX4_statusOf_54 : decode cX4_statusOf 54 = .ok (.iconst 0, 1) := by decide +kernel
theorem dX4_statusOf_55 : decode cX4_statusOf 55 = .ok (.ireturn, 1) := by decide +kernel
theorem dX4_status_0 : decode cX4_status 0 = .ok (.aload_n 0, 1) := by decide +kernel
theorem dX4_status_1 : decode cX4_status 1 = .ok (.iload_n 1, 1) := by decide +kernel
theorem dX4_status_2 : decode cX4_status 2 = .ok (.invokevirtual 115, 3) := by decide +kernel
theorem dX4_status_5 : decode cX4_status 5 = .ok (.ifCond .ne 11, 3) := by decide +kernel
theorem dX4_status_8 : decode cX4_status 8 = .ok (.aload_n 0, 1) := by decide +kernel
theorem dX4_status_9 : decode cX4_status 9 = .ok (.sipush (-10002), 3) := by decide +kernel
theorem dX4_status_12 : decode cX4_status 12 = .ok (.invokevirtual 118, 3) := by decide +kernel
theorem dX4_status_15 : decode cX4_status 15 = .ok (.ireturn, 1) := by decide +kernel
theorem dX4_status_16 : decode cX4_status 16 = .ok (.aload_n 0, 1) := by decide +kernel
theorem dX4_status_17 : decode cX4_status 17 = .ok (.invokevirtual 102, 3) := by decide +kernel
theorem dX4_status_20 : decode cX4_status 20 = .ok (.aload_n 0, 1) := by decide +kernel
theorem dX4_status_21 : decode cX4_status 21 = .ok (.iload_n 1, 1) := by decide +kernel
theorem dX4_status_22 : decode cX4_status 22 = .ok (.invokevirtual 139, 3) := by decide +kernel
theorem dX4_status_25 : decode cX4_status 25 = .ok (.ireturn, 1) := by decide +kernel
theorem dX4_valueAt_0 : decode cX4_valueAt 0 = .ok (.aload_n 0, 1) := by decide +kernel
theorem dX4_valueAt_1 : decode cX4_valueAt 1 = .ok (.iload_n 1, 1) := by decide +kernel
theorem dX4_valueAt_2 : decode cX4_valueAt 2 = .ok (.invokevirtual 139, 3) := by decide +kernel
theorem dX4_valueAt_5 : decode cX4_valueAt 5 = .ok (.ifCond .ne 12, 3) := by decide +kernel
theorem dX4_valueAt_8 : decode cX4_valueAt 8 = .ok (.aload_n 0, 1) := by decide +kernel
theorem dX4_valueAt_9 : decode cX4_valueAt 9 = .ok (.iload_n 1, 1) := by decide +kernel
theorem dX4_valueAt_10 : decode cX4_valueAt 10 = .ok (.iconst 4, 1) := by decide +kernel
theorem dX4_valueAt_11 : decode cX4_valueAt 11 = .ok (.invokevirtual 50, 3) := by decide +kernel
theorem dX4_valueAt_14 : decode cX4_valueAt 14 = .ok (.goto 6, 3) := by decide +kernel
theorem dX4_valueAt_17 : decode cX4_valueAt 17 = .ok (.sipush (-10001), 3) := by decide +kernel
theorem dX4_valueAt_20 : decode cX4_valueAt 20 = .ok (.ireturn, 1) := by decide +kernel
theorem dX4_value_0 : decode cX4_value 0 = .ok (.aload_n 0, 1) := by decide +kernel
theorem dX4_value_1 : decode cX4_value 1 = .ok (.iload_n 1, 1) := by decide +kernel
theorem dX4_value_2 : decode cX4_value 2 = .ok (.invokevirtual 115, 3) := by decide +kernel
theorem dX4_value_5 : decode cX4_value 5 = .ok (.ifCond .ne 11, 3) := by decide +kernel
theorem dX4_value_8 : decode cX4_value 8 = .ok (.aload_n 0, 1) := by decide +kernel
theorem dX4_value_9 : decode cX4_value 9 = .ok (.sipush (-10002), 3) := by decide +kernel
theorem dX4_value_12 : decode cX4_value 12 = .ok (.invokevirtual 118, 3) := by decide +kernel
theorem dX4_value_15 : decode cX4_value 15 = .ok (.ireturn, 1) := by decide +kernel
theorem dX4_value_16 : decode cX4_value 16 = .ok (.aload_n 0, 1) := by decide +kernel
theorem dX4_value_17 : decode cX4_value 17 = .ok (.invokevirtual 102, 3) := by decide +kernel
theorem dX4_value_20 : decode cX4_value 20 = .ok (.aload_n 0, 1) := by decide +kernel
theorem dX4_value_21 : decode cX4_value 21 = .ok (.iload_n 1, 1) := by decide +kernel
theorem dX4_value_22 : decode cX4_value 22 = .ok (.invokevirtual 142, 3) := by decide +kernel
theorem dX4_value_25 : decode cX4_value 25 = .ok (.ireturn, 1) := by decide +kernel
theorem dX4_valueOf_0 : decode cX4_valueOf 0 = .ok (.iload_n 1, 1) := by decide +kernel
theorem dX4_valueOf_1 : decode cX4_valueOf 1 = .ok (.iconst 0, 1) := by decide +kernel
theorem dX4_valueOf_2 : decode cX4_valueOf 2 = .ok (.bipush 9, 2) := by decide +kernel
theorem dX4_valueOf_4 : decode cX4_valueOf 4 = .ok (.invokestatic 42, 3) := by decide +kernel
theorem dX4_valueOf_7 : decode cX4_valueOf 7 = .ok (.ifCond .ne 11, 3) := by decide +kernel
theorem dX4_valueOf_10 : decode cX4_valueOf 10 = .ok (.aload_n 0, 1) := by decide +kernel
theorem dX4_valueOf_11 : decode cX4_valueOf 11 = .ok (.sipush (-10002), 3) := by decide +kernel
theorem dX4_valueOf_14 : decode cX4_valueOf 14 = .ok (.invokevirtual 118, 3) := by decide +kernel
theorem dX4_valueOf_17 : decode cX4_valueOf 17 = .ok (.ireturn, 1) := by decide +kernel
theorem dX4_valueOf_18 : decode cX4_valueOf 18 = .ok (.aload_n 0, 1) := by decide +kernel
theorem dX4_valueOf_19 : decode cX4_valueOf 19 = .ok (.invokevirtual 102, 3) := by decide +kernel
theorem dX4_valueOf_22 : decode cX4_valueOf 22 = .ok (.aload_n 0, 1) := by decide +kernel
theorem dX4_valueOf_23 : decode cX4_valueOf 23 = .ok (.iload_n 1, 1) := by decide +kernel
theorem dX4_valueOf_24 : decode cX4_valueOf 24 = .ok (.invokevirtual 53, 3) := by decide +kernel
theorem dX4_valueOf_27 : decode cX4_valueOf 27 = .ok (.invokestatic 57, 3) := by decide +kernel
theorem dX4_valueOf_30 : decode cX4_valueOf 30 = .ok (.istore_n 2, 1) := by decide +kernel
theorem dX4_valueOf_31 : decode cX4_valueOf 31 = .ok (.iload_n 2, 1) := by decide +kernel
theorem dX4_valueOf_32 : decode cX4_valueOf 32 = .ok (.sipush (-10001), 3) := by decide +kernel
theorem dX4_valueOf_35 : decode cX4_valueOf 35 = .ok (.if_icmp .ne 9, 3) := by decide +kernel
theorem dX4_valueOf_38 : decode cX4_valueOf 38 = .ok (.sipush (-10001), 3) := by decide +kernel
theorem dX4_valueOf_41 : decode cX4_valueOf 41 = .ok (.goto 8, 3) := by decide +kernel
theorem dX4_valueOf_44 : decode cX4_valueOf 44 = .ok (.aload_n 0, 1) := by decide +kernel
theorem dX4_valueOf_45 : decode cX4_valueOf 45 = .ok (.iload_n 2, 1) := by decide +kernel
theorem dX4_valueOf_46 : decode cX4_valueOf 46 = .ok (.invokevirtual 142, 3) := by decide +kernel
theorem dX4_valueOf_49 : decode cX4_valueOf 49 = .ok (.ireturn, 1) := by decide +kernel
theorem dX4_version_0 : decode cX4_version 0 = .ok (.aload_n 0, 1) := by decide +kernel
theorem dX4_version_1 : decode cX4_version 1 = .ok (.iload_n 1, 1) := by decide +kernel
theorem dX4_version_2 : decode cX4_version 2 = .ok (.iconst 5, 1) := by decide +kernel
theorem dX4_version_3 : decode cX4_version 3 = .ok (.invokevirtual 136, 3) := by decide +kernel
theorem dX4_version_6 : decode cX4_version 6 = .ok (.ireturn, 1) := by decide +kernel
theorem dX4_runs_0 : decode cX4_runs 0 = .ok (.aload_n 0, 1) := by decide +kernel
theorem dX4_runs_1 : decode cX4_runs 1 = .ok (.iload_n 1, 1) := by decide +kernel
theorem dX4_runs_2 : decode cX4_runs 2 = .ok (.bipush 8, 2) := by decide +kernel
theorem dX4_runs_4 : decode cX4_runs 4 = .ok (.invokevirtual 136, 3) := by decide +kernel
theorem dX4_runs_7 : decode cX4_runs 7 = .ok (.ireturn, 1) := by decide +kernel
theorem dX4_totalRuns_0 : decode cX4_totalRuns 0 = .ok (.aload_n 0, 1) := by decide +kernel
theorem dX4_totalRuns_1 : decode cX4_totalRuns 1 = .ok (.getfield 7, 3) := by decide +kernel
theorem dX4_totalRuns_4 : decode cX4_totalRuns 4 = .ok (.iconst 3, 1) := by decide +kernel
theorem dX4_totalRuns_5 : decode cX4_totalRuns 5 = .ok (.iaload, 1) := by decide +kernel
theorem dX4_totalRuns_6 : decode cX4_totalRuns 6 = .ok (.ireturn, 1) := by decide +kernel
theorem dX4_dependencies_0 : decode cX4_dependencies 0 = .ok (.aload_n 0, 1) := by decide +kernel
theorem dX4_dependencies_1 : decode cX4_dependencies 1 = .ok (.iload_n 1, 1) := by decide +kernel
theorem dX4_dependencies_2 : decode cX4_dependencies 2 = .ok (.invokevirtual 115, 3) := by decide +kernel
theorem dX4_dependencies_5 : decode cX4_dependencies 5 = .ok (.ifCond .ne 11, 3) := by decide +kernel
theorem dX4_dependencies_8 : decode cX4_dependencies 8 = .ok (.aload_n 0, 1) := by decide +kernel
theorem dX4_dependencies_9 : decode cX4_dependencies 9 = .ok (.sipush (-10002), 3) := by decide +kernel
theorem dX4_dependencies_12 : decode cX4_dependencies 12 = .ok (.invokevirtual 118, 3) := by decide +kernel
theorem dX4_dependencies_15 : decode cX4_dependencies 15 = .ok (.ireturn, 1) := by decide +kernel
theorem dX4_dependencies_16 : decode cX4_dependencies 16 = .ok (.aload_n 0, 1) := by decide +kernel
theorem dX4_dependencies_17 : decode cX4_dependencies 17 = .ok (.invokevirtual 102, 3) := by decide +kernel
theorem dX4_dependencies_20 : decode cX4_dependencies 20 = .ok (.aload_n 0, 1) := by decide +kernel
theorem dX4_dependencies_21 : decode cX4_dependencies 21 = .ok (.getfield 19, 3) := by decide +kernel
theorem dX4_dependencies_24 : decode cX4_dependencies 24 = .ok (.iload_n 1, 1) := by decide +kernel
theorem dX4_dependencies_25 : decode cX4_dependencies 25 = .ok (.iaload, 1) := by decide +kernel
theorem dX4_dependencies_26 : decode cX4_dependencies 26 = .ok (.ireturn, 1) := by decide +kernel
theorem dX4_dependentsOf_0 : decode cX4_dependentsOf 0 = .ok (.iconst 0, 1) := by decide +kernel
theorem dX4_dependentsOf_1 : decode cX4_dependentsOf 1 = .ok (.istore_n 2, 1) := by decide +kernel
theorem dX4_dependentsOf_2 : decode cX4_dependentsOf 2 = .ok (.iconst 0, 1) := by decide +kernel
theorem dX4_dependentsOf_3 : decode cX4_dependentsOf 3 = .ok (.istore_n 3, 1) := by decide +kernel
theorem dX4_dependentsOf_4 : decode cX4_dependentsOf 4 = .ok (.iload_n 3, 1) := by decide +kernel
theorem dX4_dependentsOf_5 : decode cX4_dependentsOf 5 = .ok (.aload_n 0, 1) := by decide +kernel
theorem dX4_dependentsOf_6 : decode cX4_dependentsOf 6 = .ok (.getfield 7, 3) := by decide +kernel
theorem dX4_dependentsOf_9 : decode cX4_dependentsOf 9 = .ok (.iconst 0, 1) := by decide +kernel
theorem dX4_dependentsOf_10 : decode cX4_dependentsOf 10 = .ok (.iaload, 1) := by decide +kernel
theorem dX4_dependentsOf_11 : decode cX4_dependentsOf 11 = .ok (.if_icmp .ge 24, 3) := by decide +kernel
theorem dX4_dependentsOf_14 : decode cX4_dependentsOf 14 = .ok (.iload_n 2, 1) := by decide +kernel
theorem dX4_dependentsOf_15 : decode cX4_dependentsOf 15 = .ok (.aload_n 0, 1) := by decide +kernel
theorem dX4_dependentsOf_16 : decode cX4_dependentsOf 16 = .ok (.getfield 25, 3) := by decide +kernel
theorem dX4_dependentsOf_19 : decode cX4_dependentsOf 19 = .ok (.iload_n 3, 1) := by decide +kernel
theorem dX4_dependentsOf_20 : decode cX4_dependentsOf 20 = .ok (.iaload, 1) := by decide +kernel
theorem dX4_dependentsOf_21 : decode cX4_dependentsOf 21 = .ok (.iload_n 1, 1) := by decide +kernel
theorem dX4_dependentsOf_22 : decode cX4_dependentsOf 22 = .ok (.ishr, 1) := by decide +kernel
theorem dX4_dependentsOf_23 : decode cX4_dependentsOf 23 = .ok (.iconst 1, 1) := by decide +kernel
theorem dX4_dependentsOf_24 : decode cX4_dependentsOf 24 = .ok (.iand, 1) := by decide +kernel
theorem dX4_dependentsOf_25 : decode cX4_dependentsOf 25 = .ok (.iload_n 3, 1) := by decide +kernel
theorem dX4_dependentsOf_26 : decode cX4_dependentsOf 26 = .ok (.ishl, 1) := by decide +kernel
theorem dX4_dependentsOf_27 : decode cX4_dependentsOf 27 = .ok (.ior, 1) := by decide +kernel
theorem dX4_dependentsOf_28 : decode cX4_dependentsOf 28 = .ok (.istore_n 2, 1) := by decide +kernel
theorem dX4_dependentsOf_29 : decode cX4_dependentsOf 29 = .ok (.iinc 3 1, 3) := by decide +kernel
theorem dX4_dependentsOf_32 : decode cX4_dependentsOf 32 = .ok (.goto (-28), 3) := by decide +kernel
theorem dX4_dependentsOf_35 : decode cX4_dependentsOf 35 = .ok (.iload_n 2, 1) := by decide +kernel
theorem dX4_dependentsOf_36 : decode cX4_dependentsOf 36 = .ok (.ireturn, 1) := by decide +kernel
theorem dX4_dependents_0 : decode cX4_dependents 0 = .ok (.aload_n 0, 1) := by decide +kernel
theorem dX4_dependents_1 : decode cX4_dependents 1 = .ok (.iload_n 1, 1) := by decide +kernel
theorem dX4_dependents_2 : decode cX4_dependents 2 = .ok (.invokevirtual 115, 3) := by decide +kernel
theorem dX4_dependents_5 : decode cX4_dependents 5 = .ok (.ifCond .ne 11, 3) := by decide +kernel
theorem dX4_dependents_8 : decode cX4_dependents 8 = .ok (.aload_n 0, 1) := by decide +kernel
theorem dX4_dependents_9 : decode cX4_dependents 9 = .ok (.sipush (-10002), 3) := by decide +kernel
theorem dX4_dependents_12 : decode cX4_dependents 12 = .ok (.invokevirtual 118, 3) := by decide +kernel
theorem dX4_dependents_15 : decode cX4_dependents 15 = .ok (.ireturn, 1) := by decide +kernel
theorem dX4_dependents_16 : decode cX4_dependents 16 = .ok (.aload_n 0, 1) := by decide +kernel
theorem dX4_dependents_17 : decode cX4_dependents 17 = .ok (.invokevirtual 102, 3) := by decide +kernel
theorem dX4_dependents_20 : decode cX4_dependents 20 = .ok (.aload_n 0, 1) := by decide +kernel
theorem dX4_dependents_21 : decode cX4_dependents 21 = .ok (.iload_n 1, 1) := by decide +kernel
theorem dX4_dependents_22 : decode cX4_dependents 22 = .ok (.invokevirtual 145, 3) := by decide +kernel
theorem dX4_dependents_25 : decode cX4_dependents 25 = .ok (.ireturn, 1) := by decide +kernel
theorem dX4_definers_0 : decode cX4_definers 0 = .ok (.iload_n 1, 1) := by decide +kernel
theorem dX4_definers_1 : decode cX4_definers 1 = .ok (.iconst 0, 1) := by decide +kernel
theorem dX4_definers_2 : decode cX4_definers 2 = .ok (.bipush 9, 2) := by decide +kernel
theorem dX4_definers_4 : decode cX4_definers 4 = .ok (.invokestatic 42, 3) := by decide +kernel
theorem dX4_definers_7 : decode cX4_definers 7 = .ok (.ifCond .eq 11, 3) := by decide +kernel
theorem dX4_definers_10 : decode cX4_definers 10 = .ok (.aload_n 0, 1) := by decide +kernel
theorem dX4_definers_11 : decode cX4_definers 11 = .ok (.iload_n 1, 1) := by decide +kernel
theorem dX4_definers_12 : decode cX4_definers 12 = .ok (.invokevirtual 53, 3) := by decide +kernel
theorem dX4_definers_15 : decode cX4_definers 15 = .ok (.goto 10, 3) := by decide +kernel
theorem dX4_definers_18 : decode cX4_definers 18 = .ok (.aload_n 0, 1) := by decide +kernel
theorem dX4_definers_19 : decode cX4_definers 19 = .ok (.sipush (-10002), 3) := by decide +kernel
theorem dX4_definers_22 : decode cX4_definers 22 = .ok (.invokevirtual 118, 3) := by decide +kernel
theorem dX4_definers_25 : decode cX4_definers 25 = .ok (.ireturn, 1) := by decide +kernel
theorem dX4_runnableCount_0 : decode cX4_runnableCount 0 = .ok (.aload_n 0, 1) := by decide +kernel
theorem dX4_runnableCount_1 : decode cX4_runnableCount 1 = .ok (.invokevirtual 102, 3) := by decide +kernel
theorem dX4_runnableCount_4 : decode cX4_runnableCount 4 = .ok (.aload_n 0, 1) := by decide +kernel
theorem dX4_runnableCount_5 : decode cX4_runnableCount 5 = .ok (.getfield 70, 3) := by decide +kernel
theorem dX4_runnableCount_8 : decode cX4_runnableCount 8 = .ok (.ireturn, 1) := by decide +kernel
theorem dX4_runOrder_0 : decode cX4_runOrder 0 = .ok (.iload_n 1, 1) := by decide +kernel
theorem dX4_runOrder_1 : decode cX4_runOrder 1 = .ok (.ifCond .ge 11, 3) := by decide +kernel
theorem dX4_runOrder_4 : decode cX4_runOrder 4 = .ok (.aload_n 0, 1) := by decide +kernel
theorem dX4_runOrder_5 : decode cX4_runOrder 5 = .ok (.sipush (-10002), 3) := by decide +kernel
theorem dX4_runOrder_8 : decode cX4_runOrder 8 = .ok (.invokevirtual 118, 3) := by decide +kernel
theorem dX4_runOrder_11 : decode cX4_runOrder 11 = .ok (.ireturn, 1) := by decide +kernel
theorem dX4_runOrder_12 : decode cX4_runOrder 12 = .ok (.aload_n 0, 1) := by decide +kernel
theorem dX4_runOrder_13 : decode cX4_runOrder 13 = .ok (.invokevirtual 102, 3) := by decide +kernel
theorem dX4_runOrder_16 : decode cX4_runOrder 16 = .ok (.iload_n 1, 1) := by decide +kernel
theorem dX4_runOrder_17 : decode cX4_runOrder 17 = .ok (.aload_n 0, 1) := by decide +kernel
theorem dX4_runOrder_18 : decode cX4_runOrder 18 = .ok (.getfield 70, 3) := by decide +kernel
theorem dX4_runOrder_21 : decode cX4_runOrder 21 = .ok (.if_icmp .ge 12, 3) := by decide +kernel
theorem dX4_runOrder_24 : decode cX4_runOrder 24 = .ok (.aload_n 0, 1) := by decide +kernel
theorem dX4_runOrder_25 : decode cX4_runOrder 25 = .ok (.getfield 28, 3) := by decide +kernel
theorem dX4_runOrder_28 : decode cX4_runOrder 28 = .ok (.iload_n 1, 1) := by decide +kernel
theorem dX4_runOrder_29 : decode cX4_runOrder 29 = .ok (.iaload, 1) := by decide +kernel
theorem dX4_runOrder_30 : decode cX4_runOrder 30 = .ok (.goto 6, 3) := by decide +kernel
theorem dX4_runOrder_33 : decode cX4_runOrder 33 = .ok (.sipush (-10001), 3) := by decide +kernel
theorem dX4_runOrder_36 : decode cX4_runOrder 36 = .ok (.ireturn, 1) := by decide +kernel
theorem dX4_staleCount_0 : decode cX4_staleCount 0 = .ok (.aload_n 0, 1) := by decide +kernel
theorem dX4_staleCount_1 : decode cX4_staleCount 1 = .ok (.invokevirtual 102, 3) := by decide +kernel
theorem dX4_staleCount_4 : decode cX4_staleCount 4 = .ok (.iconst 0, 1) := by decide +kernel
theorem dX4_staleCount_5 : decode cX4_staleCount 5 = .ok (.istore_n 1, 1) := by decide +kernel
theorem dX4_staleCount_6 : decode cX4_staleCount 6 = .ok (.iconst 0, 1) := by decide +kernel
theorem dX4_staleCount_7 : decode cX4_staleCount 7 = .ok (.istore_n 2, 1) := by decide +kernel
theorem dX4_staleCount_8 : decode cX4_staleCount 8 = .ok (.iload_n 2, 1) := by decide +kernel
theorem dX4_staleCount_9 : decode cX4_staleCount 9 = .ok (.aload_n 0, 1) := by decide +kernel
theorem dX4_staleCount_10 : decode cX4_staleCount 10 = .ok (.getfield 70, 3) := by decide +kernel
theorem dX4_staleCount_13 : decode cX4_staleCount 13 = .ok (.if_icmp .ge 31, 3) := by decide +kernel
theorem dX4_staleCount_16 : decode cX4_staleCount 16 = .ok (.iload_n 1, 1) := by decide +kernel
theorem dX4_staleCount_17 : decode cX4_staleCount 17 = .ok (.aload_n 0, 1) := by decide +kernel
theorem dX4_staleCount_18 : decode cX4_staleCount 18 = .ok (.getfield 31, 3) := by decide +kernel
theorem dX4_staleCount_21 : decode cX4_staleCount 21 = .ok (.aload_n 0, 1) := by decide +kernel
theorem dX4_staleCount_22 : decode cX4_staleCount 22 = .ok (.getfield 28, 3) := by decide +kernel
theorem dX4_staleCount_25 : decode cX4_staleCount 25 = .ok (.iload_n 2, 1) := by decide +kernel
theorem dX4_staleCount_26 : decode cX4_staleCount 26 = .ok (.iaload, 1) := by decide +kernel
theorem dX4_staleCount_27 : decode cX4_staleCount 27 = .ok (.baload, 1) := by decide +kernel
theorem dX4_staleCount_28 : decode cX4_staleCount 28 = .ok (.ifCond .eq 7, 3) := by decide +kernel
theorem dX4_staleCount_31 : decode cX4_staleCount 31 = .ok (.iconst 0, 1) := by decide +kernel
theorem dX4_staleCount_32 : decode cX4_staleCount 32 = .ok (.goto 4, 3) := by decide +kernel
theorem dX4_staleCount_35 : decode cX4_staleCount 35 = .ok (.iconst 1, 1) := by decide +kernel
theorem dX4_staleCount_36 : decode cX4_staleCount 36 = .ok (.iadd, 1) := by decide +kernel
theorem dX4_staleCount_37 : decode cX4_staleCount 37 = .ok (.istore_n 1, 1) := by decide +kernel
theorem dX4_staleCount_38 : decode cX4_staleCount 38 = .ok (.iinc 2 1, 3) := by decide +kernel
theorem dX4_staleCount_41 : decode cX4_staleCount 41 = .ok (.goto (-33), 3) := by decide +kernel
theorem dX4_staleCount_44 : decode cX4_staleCount 44 = .ok (.iload_n 1, 1) := by decide +kernel
theorem dX4_staleCount_45 : decode cX4_staleCount 45 = .ok (.ireturn, 1) := by decide +kernel
theorem dX4_undo_0 : decode cX4_undo 0 = .ok (.aload_n 0, 1) := by decide +kernel
theorem dX4_undo_1 : decode cX4_undo 1 = .ok (.getfield 46, 3) := by decide +kernel
theorem dX4_undo_4 : decode cX4_undo 4 = .ok (.ifCond .ne 11, 3) := by decide +kernel
theorem dX4_undo_7 : decode cX4_undo 7 = .ok (.aload_n 0, 1) := by decide +kernel
theorem dX4_undo_8 : decode cX4_undo 8 = .ok (.sipush (-10003), 3) := by decide +kernel
theorem dX4_undo_11 : decode cX4_undo 11 = .ok (.invokevirtual 118, 3) := by decide +kernel
theorem dX4_undo_14 : decode cX4_undo 14 = .ok (.ireturn, 1) := by decide +kernel
theorem dX4_undo_15 : decode cX4_undo 15 = .ok (.aload_n 0, 1) := by decide +kernel
theorem dX4_undo_16 : decode cX4_undo 16 = .ok (.dup, 1) := by decide +kernel
theorem dX4_undo_17 : decode cX4_undo 17 = .ok (.getfield 46, 3) := by decide +kernel
theorem dX4_undo_20 : decode cX4_undo 20 = .ok (.iconst 1, 1) := by decide +kernel
theorem dX4_undo_21 : decode cX4_undo 21 = .ok (.isub, 1) := by decide +kernel
theorem dX4_undo_22 : decode cX4_undo 22 = .ok (.putfield 46, 3) := by decide +kernel
theorem dX4_undo_25 : decode cX4_undo 25 = .ok (.iconst 0, 1) := by decide +kernel
theorem dX4_undo_26 : decode cX4_undo 26 = .ok (.istore_n 1, 1) := by decide +kernel
theorem dX4_undo_27 : decode cX4_undo 27 = .ok (.iload_n 1, 1) := by decide +kernel
theorem dX4_undo_28 : decode cX4_undo 28 = .ok (.sipush 137, 3) := by decide +kernel
theorem dX4_undo_31 : decode cX4_undo 31 = .ok (.if_icmp .ge 30, 3) := by decide +kernel
theorem dX4_undo_34 : decode cX4_undo 34 = .ok (.aload_n 0, 1) := by decide +kernel
theorem dX4_undo_35 : decode cX4_undo 35 = .ok (.getfield 7, 3) := by decide +kernel
theorem dX4_undo_38 : decode cX4_undo 38 = .ok (.iload_n 1, 1) := by decide +kernel
theorem dX4_undo_39 : decode cX4_undo 39 = .ok (.aload_n 0, 1) := by decide +kernel
theorem dX4_undo_40 : decode cX4_undo 40 = .ok (.getfield 13, 3) := by decide +kernel
theorem dX4_undo_43 : decode cX4_undo 43 = .ok (.sipush 137, 3) := by decide +kernel
theorem dX4_undo_46 : decode cX4_undo 46 = .ok (.aload_n 0, 1) := by decide +kernel
theorem dX4_undo_47 : decode cX4_undo 47 = .ok (.getfield 46, 3) := by decide +kernel
theorem dX4_undo_50 : decode cX4_undo 50 = .ok (.imul, 1) := by decide +kernel
theorem dX4_undo_51 : decode cX4_undo 51 = .ok (.iload_n 1, 1) := by decide +kernel
theorem dX4_undo_52 : decode cX4_undo 52 = .ok (.iadd, 1) := by decide +kernel
theorem dX4_undo_53 : decode cX4_undo 53 = .ok (.iaload, 1) := by decide +kernel
theorem dX4_undo_54 : decode cX4_undo 54 = .ok (.iastore, 1) := by decide +kernel
theorem dX4_undo_55 : decode cX4_undo 55 = .ok (.iinc 1 1, 3) := by decide +kernel
theorem dX4_undo_58 : decode cX4_undo 58 = .ok (.goto (-31), 3) := by decide +kernel
theorem dX4_undo_61 : decode cX4_undo 61 = .ok (.aload_n 0, 1) := by decide +kernel
theorem dX4_undo_62 : decode cX4_undo 62 = .ok (.getfield 46, 3) := by decide +kernel
theorem dX4_undo_65 : decode cX4_undo 65 = .ok (.ireturn, 1) := by decide +kernel
theorem dX4_errorCount_0 : decode cX4_errorCount 0 = .ok (.iload_n 1, 1) := by decide +kernel
theorem dX4_errorCount_1 : decode cX4_errorCount 1 = .ok (.iconst 0, 1) := by decide +kernel
theorem dX4_errorCount_2 : decode cX4_errorCount 2 = .ok (.iconst 2, 1) := by decide +kernel
theorem dX4_errorCount_3 : decode cX4_errorCount 3 = .ok (.invokestatic 42, 3) := by decide +kernel
theorem dX4_errorCount_6 : decode cX4_errorCount 6 = .ok (.ifCond .eq 12, 3) := by decide +kernel
theorem dX4_errorCount_9 : decode cX4_errorCount 9 = .ok (.aload_n 0, 1) := by decide +kernel
theorem dX4_errorCount_10 : decode cX4_errorCount 10 = .ok (.getfield 16, 3) := by decide +kernel
theorem dX4_errorCount_13 : decode cX4_errorCount 13 = .ok (.iload_n 1, 1) := by decide +kernel
theorem dX4_errorCount_14 : decode cX4_errorCount 14 = .ok (.iaload, 1) := by decide +kernel
theorem dX4_errorCount_15 : decode cX4_errorCount 15 = .ok (.goto 10, 3) := by decide +kernel
theorem dX4_errorCount_18 : decode cX4_errorCount 18 = .ok (.aload_n 0, 1) := by decide +kernel
theorem dX4_errorCount_19 : decode cX4_errorCount 19 = .ok (.sipush (-10002), 3) := by decide +kernel
theorem dX4_errorCount_22 : decode cX4_errorCount 22 = .ok (.invokevirtual 118, 3) := by decide +kernel
theorem dX4_errorCount_25 : decode cX4_errorCount 25 = .ok (.ireturn, 1) := by decide +kernel
theorem dX4_mix_0 : decode cX4_mix 0 = .ok (.aload_n 0, 1) := by decide +kernel
theorem dX4_mix_1 : decode cX4_mix 1 = .ok (.ldc2_w 148, 3) := by decide +kernel
theorem dX4_mix_4 : decode cX4_mix 4 = .ok (.aload_n 0, 1) := by decide +kernel
theorem dX4_mix_5 : decode cX4_mix 5 = .ok (.getfield 150, 3) := by decide +kernel
theorem dX4_mix_8 : decode cX4_mix 8 = .ok (.lmul, 1) := by decide +kernel
theorem dX4_mix_9 : decode cX4_mix 9 = .ok (.lload_n 1, 1) := by decide +kernel
theorem dX4_mix_10 : decode cX4_mix 10 = .ok (.ladd, 1) := by decide +kernel
theorem dX4_mix_11 : decode cX4_mix 11 = .ok (.putfield 150, 3) := by decide +kernel
theorem dX4_mix_14 : decode cX4_mix 14 = .ok (.return_, 1) := by decide +kernel
theorem dX4_mixCell_0 : decode cX4_mixCell 0 = .ok (.iconst 0, 1) := by decide +kernel
theorem dX4_mixCell_1 : decode cX4_mixCell 1 = .ok (.istore_n 2, 1) := by decide +kernel
theorem dX4_mixCell_2 : decode cX4_mixCell 2 = .ok (.iload_n 2, 1) := by decide +kernel
theorem dX4_mixCell_3 : decode cX4_mixCell 3 = .ok (.iconst 3, 1) := by decide +kernel
theorem dX4_mixCell_4 : decode cX4_mixCell 4 = .ok (.if_icmp .gt 20, 3) := by decide +kernel
theorem dX4_mixCell_7 : decode cX4_mixCell 7 = .ok (.aload_n 0, 1) := by decide +kernel
theorem dX4_mixCell_8 : decode cX4_mixCell 8 = .ok (.aload_n 0, 1) := by decide +kernel
theorem dX4_mixCell_9 : decode cX4_mixCell 9 = .ok (.iload_n 1, 1) := by decide +kernel
theorem dX4_mixCell_10 : decode cX4_mixCell 10 = .ok (.iload_n 2, 1) := by decide +kernel
theorem dX4_mixCell_11 : decode cX4_mixCell 11 = .ok (.invokevirtual 50, 3) := by decide +kernel
theorem dX4_mixCell_14 : decode cX4_mixCell 14 = .ok (.i2l, 1) := by decide +kernel
theorem dX4_mixCell_15 : decode cX4_mixCell 15 = .ok (.invokevirtual 154, 3) := by decide +kernel
theorem dX4_mixCell_18 : decode cX4_mixCell 18 = .ok (.iinc 2 1, 3) := by decide +kernel
theorem dX4_mixCell_21 : decode cX4_mixCell 21 = .ok (.goto (-19), 3) := by decide +kernel
theorem dX4_mixCell_24 : decode cX4_mixCell 24 = .ok (.aload_n 0, 1) := by decide +kernel
theorem dX4_mixCell_25 : decode cX4_mixCell 25 = .ok (.aload_n 0, 1) := by decide +kernel
theorem dX4_mixCell_26 : decode cX4_mixCell 26 = .ok (.iload_n 1, 1) := by decide +kernel
theorem dX4_mixCell_27 : decode cX4_mixCell 27 = .ok (.invokevirtual 139, 3) := by decide +kernel
theorem dX4_mixCell_30 : decode cX4_mixCell 30 = .ok (.i2l, 1) := by decide +kernel
theorem dX4_mixCell_31 : decode cX4_mixCell 31 = .ok (.invokevirtual 154, 3) := by decide +kernel
theorem dX4_mixCell_34 : decode cX4_mixCell 34 = .ok (.aload_n 0, 1) := by decide +kernel
theorem dX4_mixCell_35 : decode cX4_mixCell 35 = .ok (.aload_n 0, 1) := by decide +kernel
theorem dX4_mixCell_36 : decode cX4_mixCell 36 = .ok (.iload_n 1, 1) := by decide +kernel
theorem dX4_mixCell_37 : decode cX4_mixCell 37 = .ok (.invokevirtual 142, 3) := by decide +kernel
theorem dX4_mixCell_40 : decode cX4_mixCell 40 = .ok (.i2l, 1) := by decide +kernel
theorem dX4_mixCell_41 : decode cX4_mixCell 41 = .ok (.invokevirtual 154, 3) := by decide +kernel
theorem dX4_mixCell_44 : decode cX4_mixCell 44 = .ok (.aload_n 0, 1) := by decide +kernel
theorem dX4_mixCell_45 : decode cX4_mixCell 45 = .ok (.aload_n 0, 1) := by decide +kernel
theorem dX4_mixCell_46 : decode cX4_mixCell 46 = .ok (.iload_n 1, 1) := by decide +kernel
theorem dX4_mixCell_47 : decode cX4_mixCell 47 = .ok (.iconst 5, 1) := by decide +kernel
theorem dX4_mixCell_48 : decode cX4_mixCell 48 = .ok (.invokevirtual 50, 3) := by decide +kernel
theorem dX4_mixCell_51 : decode cX4_mixCell 51 = .ok (.i2l, 1) := by decide +kernel
theorem dX4_mixCell_52 : decode cX4_mixCell 52 = .ok (.invokevirtual 154, 3) := by decide +kernel
theorem dX4_mixCell_55 : decode cX4_mixCell 55 = .ok (.aload_n 0, 1) := by decide +kernel
theorem dX4_mixCell_56 : decode cX4_mixCell 56 = .ok (.aload_n 0, 1) := by decide +kernel
theorem dX4_mixCell_57 : decode cX4_mixCell 57 = .ok (.iload_n 1, 1) := by decide +kernel
theorem dX4_mixCell_58 : decode cX4_mixCell 58 = .ok (.bipush 8, 2) := by decide +kernel
theorem dX4_mixCell_60 : decode cX4_mixCell 60 = .ok (.invokevirtual 50, 3) := by decide +kernel
theorem dX4_mixCell_63 : decode cX4_mixCell 63 = .ok (.i2l, 1) := by decide +kernel
theorem dX4_mixCell_64 : decode cX4_mixCell 64 = .ok (.invokevirtual 154, 3) := by decide +kernel
theorem dX4_mixCell_67 : decode cX4_mixCell 67 = .ok (.aload_n 0, 1) := by decide +kernel
theorem dX4_mixCell_68 : decode cX4_mixCell 68 = .ok (.aload_n 0, 1) := by decide +kernel
theorem dX4_mixCell_69 : decode cX4_mixCell 69 = .ok (.getfield 19, 3) := by decide +kernel
theorem dX4_mixCell_72 : decode cX4_mixCell 72 = .ok (.iload_n 1, 1) := by decide +kernel
theorem dX4_mixCell_73 : decode cX4_mixCell 73 = .ok (.iaload, 1) := by decide +kernel
theorem dX4_mixCell_74 : decode cX4_mixCell 74 = .ok (.i2l, 1) := by decide +kernel
theorem dX4_mixCell_75 : decode cX4_mixCell 75 = .ok (.invokevirtual 154, 3) := by decide +kernel
theorem dX4_mixCell_78 : decode cX4_mixCell 78 = .ok (.aload_n 0, 1) := by decide +kernel
theorem dX4_mixCell_79 : decode cX4_mixCell 79 = .ok (.aload_n 0, 1) := by decide +kernel
theorem dX4_mixCell_80 : decode cX4_mixCell 80 = .ok (.iload_n 1, 1) := by decide +kernel
theorem dX4_mixCell_81 : decode cX4_mixCell 81 = .ok (.invokevirtual 145, 3) := by decide +kernel
theorem dX4_mixCell_84 : decode cX4_mixCell 84 = .ok (.i2l, 1) := by decide +kernel
theorem dX4_mixCell_85 : decode cX4_mixCell 85 = .ok (.invokevirtual 154, 3) := by decide +kernel
theorem dX4_mixCell_88 : decode cX4_mixCell 88 = .ok (.return_, 1) := by decide +kernel
theorem dX4_digest_0 : decode cX4_digest 0 = .ok (.aload_n 0, 1) := by decide +kernel
theorem dX4_digest_1 : decode cX4_digest 1 = .ok (.invokevirtual 102, 3) := by decide +kernel
theorem dX4_digest_4 : decode cX4_digest 4 = .ok (.aload_n 0, 1) := by decide +kernel
theorem dX4_digest_5 : decode cX4_digest 5 = .ok (.ldc2_w 158, 3) := by decide +kernel
theorem dX4_digest_8 : decode cX4_digest 8 = .ok (.putfield 150, 3) := by decide +kernel
theorem dX4_digest_11 : decode cX4_digest 11 = .ok (.iconst 0, 1) := by decide +kernel
theorem dX4_digest_12 : decode cX4_digest 12 = .ok (.istore_n 1, 1) := by decide +kernel
theorem dX4_digest_13 : decode cX4_digest 13 = .ok (.iload_n 1, 1) := by decide +kernel
theorem dX4_digest_14 : decode cX4_digest 14 = .ok (.iconst 3, 1) := by decide +kernel
theorem dX4_digest_15 : decode cX4_digest 15 = .ok (.if_icmp .ge 20, 3) := by decide +kernel
theorem dX4_digest_18 : decode cX4_digest 18 = .ok (.aload_n 0, 1) := by decide +kernel
theorem dX4_digest_19 : decode cX4_digest 19 = .ok (.aload_n 0, 1) := by decide +kernel
theorem dX4_digest_20 : decode cX4_digest 20 = .ok (.getfield 16, 3) := by decide +kernel
theorem dX4_digest_23 : decode cX4_digest 23 = .ok (.iload_n 1, 1) := by decide +kernel
theorem dX4_digest_24 : decode cX4_digest 24 = .ok (.iaload, 1) := by decide +kernel
theorem dX4_digest_25 : decode cX4_digest 25 = .ok (.i2l, 1) := by decide +kernel
theorem dX4_digest_26 : decode cX4_digest 26 = .ok (.invokevirtual 154, 3) := by decide +kernel
theorem dX4_digest_29 : decode cX4_digest 29 = .ok (.iinc 1 1, 3) := by decide +kernel
theorem dX4_digest_32 : decode cX4_digest 32 = .ok (.goto (-19), 3) := by decide +kernel
theorem dX4_digest_35 : decode cX4_digest 35 = .ok (.aload_n 0, 1) := by decide +kernel
theorem dX4_digest_36 : decode cX4_digest 36 = .ok (.aload_n 0, 1) := by decide +kernel
theorem dX4_digest_37 : decode cX4_digest 37 = .ok (.getfield 46, 3) := by decide +kernel
theorem dX4_digest_40 : decode cX4_digest 40 = .ok (.i2l, 1) := by decide +kernel
theorem dX4_digest_41 : decode cX4_digest 41 = .ok (.invokevirtual 154, 3) := by decide +kernel
theorem dX4_digest_44 : decode cX4_digest 44 = .ok (.aload_n 0, 1) := by decide +kernel
theorem dX4_digest_45 : decode cX4_digest 45 = .ok (.aload_n 0, 1) := by decide +kernel
theorem dX4_digest_46 : decode cX4_digest 46 = .ok (.getfield 7, 3) := by decide +kernel
theorem dX4_digest_49 : decode cX4_digest 49 = .ok (.iconst 1, 1) := by decide +kernel
theorem dX4_digest_50 : decode cX4_digest 50 = .ok (.iaload, 1) := by decide +kernel
theorem dX4_digest_51 : decode cX4_digest 51 = .ok (.i2l, 1) := by decide +kernel
theorem dX4_digest_52 : decode cX4_digest 52 = .ok (.invokevirtual 154, 3) := by decide +kernel
theorem dX4_digest_55 : decode cX4_digest 55 = .ok (.aload_n 0, 1) := by decide +kernel
theorem dX4_digest_56 : decode cX4_digest 56 = .ok (.aload_n 0, 1) := by decide +kernel
theorem dX4_digest_57 : decode cX4_digest 57 = .ok (.getfield 7, 3) := by decide +kernel
theorem dX4_digest_60 : decode cX4_digest 60 = .ok (.iconst 3, 1) := by decide +kernel
theorem dX4_digest_61 : decode cX4_digest 61 = .ok (.iaload, 1) := by decide +kernel
theorem dX4_digest_62 : decode cX4_digest 62 = .ok (.i2l, 1) := by decide +kernel
theorem dX4_digest_63 : decode cX4_digest 63 = .ok (.invokevirtual 154, 3) := by decide +kernel
theorem dX4_digest_66 : decode cX4_digest 66 = .ok (.aload_n 0, 1) := by decide +kernel
theorem dX4_digest_67 : decode cX4_digest 67 = .ok (.aload_n 0, 1) := by decide +kernel
theorem dX4_digest_68 : decode cX4_digest 68 = .ok (.getfield 7, 3) := by decide +kernel
theorem dX4_digest_71 : decode cX4_digest 71 = .ok (.iconst 4, 1) := by decide +kernel
theorem dX4_digest_72 : decode cX4_digest 72 = .ok (.iaload, 1) := by decide +kernel
theorem dX4_digest_73 : decode cX4_digest 73 = .ok (.i2l, 1) := by decide +kernel
theorem dX4_digest_74 : decode cX4_digest 74 = .ok (.invokevirtual 154, 3) := by decide +kernel
theorem dX4_digest_77 : decode cX4_digest 77 = .ok (.iconst 0, 1) := by decide +kernel
theorem dX4_digest_78 : decode cX4_digest 78 = .ok (.istore_n 1, 1) := by decide +kernel
theorem dX4_digest_79 : decode cX4_digest 79 = .ok (.iload_n 1, 1) := by decide +kernel
theorem dX4_digest_80 : decode cX4_digest 80 = .ok (.aload_n 0, 1) := by decide +kernel
theorem dX4_digest_81 : decode cX4_digest 81 = .ok (.getfield 7, 3) := by decide +kernel
theorem dX4_digest_84 : decode cX4_digest 84 = .ok (.iconst 4, 1) := by decide +kernel
theorem dX4_digest_85 : decode cX4_digest 85 = .ok (.iaload, 1) := by decide +kernel
theorem dX4_digest_86 : decode cX4_digest 86 = .ok (.if_icmp .ge 22, 3) := by decide +kernel
theorem dX4_digest_89 : decode cX4_digest 89 = .ok (.aload_n 0, 1) := by decide +kernel
theorem dX4_digest_90 : decode cX4_digest 90 = .ok (.aload_n 0, 1) := by decide +kernel
theorem dX4_digest_91 : decode cX4_digest 91 = .ok (.getfield 7, 3) := by decide +kernel
theorem dX4_digest_94 : decode cX4_digest 94 = .ok (.iconst 5, 1) := by decide +kernel
theorem dX4_digest_95 : decode cX4_digest 95 = .ok (.iload_n 1, 1) := by decide +kernel
theorem dX4_digest_96 : decode cX4_digest 96 = .ok (.iadd, 1) := by decide +kernel
theorem dX4_digest_97 : decode cX4_digest 97 = .ok (.iaload, 1) := by decide +kernel
theorem dX4_digest_98 : decode cX4_digest 98 = .ok (.i2l, 1) := by decide +kernel
theorem dX4_digest_99 : decode cX4_digest 99 = .ok (.invokevirtual 154, 3) := by decide +kernel
theorem dX4_digest_102 : decode cX4_digest 102 = .ok (.iinc 1 1, 3) := by decide +kernel
theorem dX4_digest_105 : decode cX4_digest 105 = .ok (.goto (-26), 3) := by decide +kernel
theorem dX4_digest_108 : decode cX4_digest 108 = .ok (.aload_n 0, 1) := by decide +kernel
theorem dX4_digest_109 : decode cX4_digest 109 = .ok (.aload_n 0, 1) := by decide +kernel
theorem dX4_digest_110 : decode cX4_digest 110 = .ok (.getfield 7, 3) := by decide +kernel
theorem dX4_digest_113 : decode cX4_digest 113 = .ok (.iconst 0, 1) := by decide +kernel
theorem dX4_digest_114 : decode cX4_digest 114 = .ok (.iaload, 1) := by decide +kernel
theorem dX4_digest_115 : decode cX4_digest 115 = .ok (.i2l, 1) := by decide +kernel
theorem dX4_digest_116 : decode cX4_digest 116 = .ok (.invokevirtual 154, 3) := by decide +kernel
theorem dX4_digest_119 : decode cX4_digest 119 = .ok (.iconst 0, 1) := by decide +kernel
theorem dX4_digest_120 : decode cX4_digest 120 = .ok (.istore_n 1, 1) := by decide +kernel
theorem dX4_digest_121 : decode cX4_digest 121 = .ok (.iload_n 1, 1) := by decide +kernel
theorem dX4_digest_122 : decode cX4_digest 122 = .ok (.aload_n 0, 1) := by decide +kernel
theorem dX4_digest_123 : decode cX4_digest 123 = .ok (.getfield 7, 3) := by decide +kernel
theorem dX4_digest_126 : decode cX4_digest 126 = .ok (.iconst 0, 1) := by decide +kernel
theorem dX4_digest_127 : decode cX4_digest 127 = .ok (.iaload, 1) := by decide +kernel
theorem dX4_digest_128 : decode cX4_digest 128 = .ok (.if_icmp .ge 14, 3) := by decide +kernel
theorem dX4_digest_131 : decode cX4_digest 131 = .ok (.aload_n 0, 1) := by decide +kernel
theorem dX4_digest_132 : decode cX4_digest 132 = .ok (.iload_n 1, 1) := by decide +kernel
theorem dX4_digest_133 : decode cX4_digest 133 = .ok (.invokevirtual 160, 3) := by decide +kernel
theorem dX4_digest_136 : decode cX4_digest 136 = .ok (.iinc 1 1, 3) := by decide +kernel
theorem dX4_digest_139 : decode cX4_digest 139 = .ok (.goto (-18), 3) := by decide +kernel
theorem dX4_digest_142 : decode cX4_digest 142 = .ok (.aload_n 0, 1) := by decide +kernel
theorem dX4_digest_143 : decode cX4_digest 143 = .ok (.aload_n 0, 1) := by decide +kernel
theorem dX4_digest_144 : decode cX4_digest 144 = .ok (.getfield 70, 3) := by decide +kernel
theorem dX4_digest_147 : decode cX4_digest 147 = .ok (.i2l, 1) := by decide +kernel
theorem dX4_digest_148 : decode cX4_digest 148 = .ok (.invokevirtual 154, 3) := by decide +kernel
theorem dX4_digest_151 : decode cX4_digest 151 = .ok (.iconst 0, 1) := by decide +kernel
theorem dX4_digest_152 : decode cX4_digest 152 = .ok (.istore_n 1, 1) := by decide +kernel
theorem dX4_digest_153 : decode cX4_digest 153 = .ok (.iload_n 1, 1) := by decide +kernel
theorem dX4_digest_154 : decode cX4_digest 154 = .ok (.aload_n 0, 1) := by decide +kernel
theorem dX4_digest_155 : decode cX4_digest 155 = .ok (.getfield 70, 3) := by decide +kernel
theorem dX4_digest_158 : decode cX4_digest 158 = .ok (.if_icmp .ge 20, 3) := by decide +kernel
theorem dX4_digest_161 : decode cX4_digest 161 = .ok (.aload_n 0, 1) := by decide +kernel
theorem dX4_digest_162 : decode cX4_digest 162 = .ok (.aload_n 0, 1) := by decide +kernel
theorem dX4_digest_163 : decode cX4_digest 163 = .ok (.getfield 28, 3) := by decide +kernel
theorem dX4_digest_166 : decode cX4_digest 166 = .ok (.iload_n 1, 1) := by decide +kernel
theorem dX4_digest_167 : decode cX4_digest 167 = .ok (.iaload, 1) := by decide +kernel
theorem dX4_digest_168 : decode cX4_digest 168 = .ok (.i2l, 1) := by decide +kernel
theorem dX4_digest_169 : decode cX4_digest 169 = .ok (.invokevirtual 154, 3) := by decide +kernel
theorem dX4_digest_172 : decode cX4_digest 172 = .ok (.iinc 1 1, 3) := by decide +kernel
theorem dX4_digest_175 : decode cX4_digest 175 = .ok (.goto (-22), 3) := by decide +kernel
theorem dX4_digest_178 : decode cX4_digest 178 = .ok (.aload_n 0, 1) := by decide +kernel
theorem dX4_digest_179 : decode cX4_digest 179 = .ok (.getfield 150, 3) := by decide +kernel
theorem dX4_digest_182 : decode cX4_digest 182 = .ok (.lreturn, 1) := by decide +kernel
theorem dJ6_bitCount_0f7a4_0 : decode cJ6_bitCount_0f7a4 0 = .ok (.iload_n 0, 1) := by decide +kernel
theorem dJ6_bitCount_0f7a4_1 : decode cJ6_bitCount_0f7a4 1 = .ok (.iload_n 0, 1) := by decide +kernel
theorem dJ6_bitCount_0f7a4_2 : decode cJ6_bitCount_0f7a4 2 = .ok (.iconst 1, 1) := by decide +kernel
theorem dJ6_bitCount_0f7a4_3 : decode cJ6_bitCount_0f7a4 3 = .ok (.iushr, 1) := by decide +kernel
theorem dJ6_bitCount_0f7a4_4 : decode cJ6_bitCount_0f7a4 4 = .ok (.ldc_w 265, 3) := by decide +kernel
theorem dJ6_bitCount_0f7a4_7 : decode cJ6_bitCount_0f7a4 7 = .ok (.iand, 1) := by decide +kernel
theorem dJ6_bitCount_0f7a4_8 : decode cJ6_bitCount_0f7a4 8 = .ok (.isub, 1) := by decide +kernel
theorem dJ6_bitCount_0f7a4_9 : decode cJ6_bitCount_0f7a4 9 = .ok (.istore_n 0, 1) := by decide +kernel
theorem dJ6_bitCount_0f7a4_10 : decode cJ6_bitCount_0f7a4 10 = .ok (.iload_n 0, 1) := by decide +kernel
theorem dJ6_bitCount_0f7a4_11 : decode cJ6_bitCount_0f7a4 11 = .ok (.ldc_w 266, 3) := by decide +kernel
theorem dJ6_bitCount_0f7a4_14 : decode cJ6_bitCount_0f7a4 14 = .ok (.iand, 1) := by decide +kernel
theorem dJ6_bitCount_0f7a4_15 : decode cJ6_bitCount_0f7a4 15 = .ok (.iload_n 0, 1) := by decide +kernel
theorem dJ6_bitCount_0f7a4_16 : decode cJ6_bitCount_0f7a4 16 = .ok (.iconst 2, 1) := by decide +kernel
theorem dJ6_bitCount_0f7a4_17 : decode cJ6_bitCount_0f7a4 17 = .ok (.iushr, 1) := by decide +kernel
theorem dJ6_bitCount_0f7a4_18 : decode cJ6_bitCount_0f7a4 18 = .ok (.ldc_w 266, 3) := by decide +kernel
theorem dJ6_bitCount_0f7a4_21 : decode cJ6_bitCount_0f7a4 21 = .ok (.iand, 1) := by decide +kernel
theorem dJ6_bitCount_0f7a4_22 : decode cJ6_bitCount_0f7a4 22 = .ok (.iadd, 1) := by decide +kernel
theorem dJ6_bitCount_0f7a4_23 : decode cJ6_bitCount_0f7a4 23 = .ok (.istore_n 0, 1) := by decide +kernel
theorem dJ6_bitCount_0f7a4_24 : decode cJ6_bitCount_0f7a4 24 = .ok (.iload_n 0, 1) := by decide +kernel
theorem dJ6_bitCount_0f7a4_25 : decode cJ6_bitCount_0f7a4 25 = .ok (.iload_n 0, 1) := by decide +kernel
theorem dJ6_bitCount_0f7a4_26 : decode cJ6_bitCount_0f7a4 26 = .ok (.iconst 4, 1) := by decide +kernel
theorem dJ6_bitCount_0f7a4_27 : decode cJ6_bitCount_0f7a4 27 = .ok (.iushr, 1) := by decide +kernel
theorem dJ6_bitCount_0f7a4_28 : decode cJ6_bitCount_0f7a4 28 = .ok (.iadd, 1) := by decide +kernel
theorem dJ6_bitCount_0f7a4_29 : decode cJ6_bitCount_0f7a4 29 = .ok (.ldc_w 267, 3) := by decide +kernel
theorem dJ6_bitCount_0f7a4_32 : decode cJ6_bitCount_0f7a4 32 = .ok (.iand, 1) := by decide +kernel
theorem dJ6_bitCount_0f7a4_33 : decode cJ6_bitCount_0f7a4 33 = .ok (.istore_n 0, 1) := by decide +kernel
theorem dJ6_bitCount_0f7a4_34 : decode cJ6_bitCount_0f7a4 34 = .ok (.iload_n 0, 1) := by decide +kernel
theorem dJ6_bitCount_0f7a4_35 : decode cJ6_bitCount_0f7a4 35 = .ok (.iload_n 0, 1) := by decide +kernel
theorem dJ6_bitCount_0f7a4_36 : decode cJ6_bitCount_0f7a4 36 = .ok (.bipush 8, 2) := by decide +kernel
theorem dJ6_bitCount_0f7a4_38 : decode cJ6_bitCount_0f7a4 38 = .ok (.iushr, 1) := by decide +kernel
theorem dJ6_bitCount_0f7a4_39 : decode cJ6_bitCount_0f7a4 39 = .ok (.iadd, 1) := by decide +kernel
theorem dJ6_bitCount_0f7a4_40 : decode cJ6_bitCount_0f7a4 40 = .ok (.istore_n 0, 1) := by decide +kernel
theorem dJ6_bitCount_0f7a4_41 : decode cJ6_bitCount_0f7a4 41 = .ok (.iload_n 0, 1) := by decide +kernel
theorem dJ6_bitCount_0f7a4_42 : decode cJ6_bitCount_0f7a4 42 = .ok (.iload_n 0, 1) := by decide +kernel
theorem dJ6_bitCount_0f7a4_43 : decode cJ6_bitCount_0f7a4 43 = .ok (.bipush 16, 2) := by decide +kernel
theorem dJ6_bitCount_0f7a4_45 : decode cJ6_bitCount_0f7a4 45 = .ok (.iushr, 1) := by decide +kernel
theorem dJ6_bitCount_0f7a4_46 : decode cJ6_bitCount_0f7a4 46 = .ok (.iadd, 1) := by decide +kernel
theorem dJ6_bitCount_0f7a4_47 : decode cJ6_bitCount_0f7a4 47 = .ok (.istore_n 0, 1) := by decide +kernel
theorem dJ6_bitCount_0f7a4_48 : decode cJ6_bitCount_0f7a4 48 = .ok (.iload_n 0, 1) := by decide +kernel
theorem dJ6_bitCount_0f7a4_49 : decode cJ6_bitCount_0f7a4 49 = .ok (.bipush 63, 2) := by decide +kernel
theorem dJ6_bitCount_0f7a4_51 : decode cJ6_bitCount_0f7a4 51 = .ok (.iand, 1) := by decide +kernel
theorem dJ6_bitCount_0f7a4_52 : decode cJ6_bitCount_0f7a4 52 = .ok (.ireturn, 1) := by decide +kernel
theorem dJ9_abs_0f7a4_0 : decode cJ9_abs_0f7a4 0 = .ok (.iload_n 0, 1) := by decide +kernel
theorem dJ9_abs_0f7a4_1 : decode cJ9_abs_0f7a4 1 = .ok (.ifCond .ge 8, 3) := by decide +kernel
theorem dJ9_abs_0f7a4_4 : decode cJ9_abs_0f7a4 4 = .ok (.iload_n 0, 1) := by decide +kernel
theorem dJ9_abs_0f7a4_5 : decode cJ9_abs_0f7a4 5 = .ok (.ineg, 1) := by decide +kernel
theorem dJ9_abs_0f7a4_6 : decode cJ9_abs_0f7a4 6 = .ok (.goto 4, 3) := by decide +kernel
theorem dJ9_abs_0f7a4_9 : decode cJ9_abs_0f7a4 9 = .ok (.iload_n 0, 1) := by decide +kernel
theorem dJ9_abs_0f7a4_10 : decode cJ9_abs_0f7a4 10 = .ok (.ireturn, 1) := by decide +kernel
theorem dJ9_max_7cf53_0 : decode cJ9_max_7cf53 0 = .ok (.iload_n 0, 1) := by decide +kernel
theorem dJ9_max_7cf53_1 : decode cJ9_max_7cf53 1 = .ok (.iload_n 1, 1) := by decide +kernel
theorem dJ9_max_7cf53_2 : decode cJ9_max_7cf53 2 = .ok (.if_icmp .lt 7, 3) := by decide +kernel
theorem dJ9_max_7cf53_5 : decode cJ9_max_7cf53 5 = .ok (.iload_n 0, 1) := by decide +kernel
theorem dJ9_max_7cf53_6 : decode cJ9_max_7cf53 6 = .ok (.goto 4, 3) := by decide +kernel
theorem dJ9_max_7cf53_9 : decode cJ9_max_7cf53 9 = .ok (.iload_n 1, 1) := by decide +kernel
theorem dJ9_max_7cf53_10 : decode cJ9_max_7cf53 10 = .ok (.ireturn, 1) := by decide +kernel
theorem dJ9_min_7cf53_0 : decode cJ9_min_7cf53 0 = .ok (.iload_n 0, 1) := by decide +kernel
theorem dJ9_min_7cf53_1 : decode cJ9_min_7cf53 1 = .ok (.iload_n 1, 1) := by decide +kernel
theorem dJ9_min_7cf53_2 : decode cJ9_min_7cf53 2 = .ok (.if_icmp .gt 7, 3) := by decide +kernel
theorem dJ9_min_7cf53_5 : decode cJ9_min_7cf53 5 = .ok (.iload_n 0, 1) := by decide +kernel
theorem dJ9_min_7cf53_6 : decode cJ9_min_7cf53 6 = .ok (.goto 4, 3) := by decide +kernel
theorem dJ9_min_7cf53_9 : decode cJ9_min_7cf53 9 = .ok (.iload_n 1, 1) := by decide +kernel
theorem dJ9_min_7cf53_10 : decode cJ9_min_7cf53 10 = .ok (.ireturn, 1) := by decide +kernel
theorem dL_law_0 : decode cL_law 0 = .ok (.new 7, 3) := by decide +kernel
theorem dL_law_3 : decode cL_law 3 = .ok (.dup, 1) := by decide +kernel
theorem dL_law_4 : decode cL_law 4 = .ok (.invokespecial 9, 3) := by decide +kernel
theorem dL_law_7 : decode cL_law 7 = .ok (.astore_n 1, 1) := by decide +kernel
theorem dL_law_8 : decode cL_law 8 = .ok (.new 10, 3) := by decide +kernel
theorem dL_law_11 : decode cL_law 11 = .ok (.dup, 1) := by decide +kernel
theorem dL_law_12 : decode cL_law 12 = .ok (.invokespecial 12, 3) := by decide +kernel
theorem dL_law_15 : decode cL_law 15 = .ok (.astore_n 2, 1) := by decide +kernel
theorem dL_law_16 : decode cL_law 16 = .ok (.iconst 0, 1) := by decide +kernel
theorem dL_law_17 : decode cL_law 17 = .ok (.istore_n 3, 1) := by decide +kernel
theorem dL_law_18 : decode cL_law 18 = .ok (.iload_n 3, 1) := by decide +kernel
theorem dL_law_19 : decode cL_law 19 = .ok (.aload_n 0, 1) := by decide +kernel
theorem dL_law_20 : decode cL_law 20 = .ok (.arraylength, 1) := by decide +kernel
theorem dL_law_21 : decode cL_law 21 = .ok (.bipush 6, 2) := by decide +kernel
theorem dL_law_23 : decode cL_law 23 = .ok (.isub, 1) := by decide +kernel
theorem dL_law_24 : decode cL_law 24 = .ok (.if_icmp .gt 733, 3) := by decide +kernel
theorem dL_law_27 : decode cL_law 27 = .ok (.aload_n 0, 1) := by decide +kernel
theorem dL_law_28 : decode cL_law 28 = .ok (.iload_n 3, 1) := by decide +kernel
theorem dL_law_29 : decode cL_law 29 = .ok (.iaload, 1) := by decide +kernel
theorem dL_law_30 : decode cL_law 30 = .ok (.bipush 31, 2) := by decide +kernel
theorem dL_law_32 : decode cL_law 32 = .ok (.iand, 1) := by decide +kernel
theorem dL_law_33 : decode cL_law 33 = .ok (.tableswitch 718 0 25 #[119, 172, 235, 258, 291, 314, 327, 350, 363, 386, 399, 422, 445, 468, 491, 514, 537, 550, 573, 596, 619, 632, 655, 668, 681, 704], 119) := by decide +kernel
theorem dL_law_152 : decode cL_law 152 = .ok (.aload_n 1, 1) := by decide +kernel
theorem dL_law_153 : decode cL_law 153 = .ok (.aload_n 0, 1) := by decide +kernel
theorem dL_law_154 : decode cL_law 154 = .ok (.iload_n 3, 1) := by decide +kernel
theorem dL_law_155 : decode cL_law 155 = .ok (.iconst 1, 1) := by decide +kernel
theorem dL_law_156 : decode cL_law 156 = .ok (.iadd, 1) := by decide +kernel
theorem dL_law_157 : decode cL_law 157 = .ok (.iaload, 1) := by decide +kernel
theorem dL_law_158 : decode cL_law 158 = .ok (.aload_n 0, 1) := by decide +kernel
theorem dL_law_159 : decode cL_law 159 = .ok (.iload_n 3, 1) := by decide +kernel
theorem dL_law_160 : decode cL_law 160 = .ok (.iconst 2, 1) := by decide +kernel
theorem dL_law_161 : decode cL_law 161 = .ok (.iadd, 1) := by decide +kernel
theorem dL_law_162 : decode cL_law 162 = .ok (.iaload, 1) := by decide +kernel
theorem dL_law_163 : decode cL_law 163 = .ok (.aload_n 0, 1) := by decide +kernel
theorem dL_law_164 : decode cL_law 164 = .ok (.iload_n 3, 1) := by decide +kernel
theorem dL_law_165 : decode cL_law 165 = .ok (.iconst 3, 1) := by decide +kernel
theorem dL_law_166 : decode cL_law 166 = .ok (.iadd, 1) := by decide +kernel
theorem dL_law_167 : decode cL_law 167 = .ok (.iaload, 1) := by decide +kernel
theorem dL_law_168 : decode cL_law 168 = .ok (.aload_n 0, 1) := by decide +kernel
theorem dL_law_169 : decode cL_law 169 = .ok (.iload_n 3, 1) := by decide +kernel
theorem dL_law_170 : decode cL_law 170 = .ok (.iconst 4, 1) := by decide +kernel
theorem dL_law_171 : decode cL_law 171 = .ok (.iadd, 1) := by decide +kernel
theorem dL_law_172 : decode cL_law 172 = .ok (.iaload, 1) := by decide +kernel
theorem dL_law_173 : decode cL_law 173 = .ok (.invokevirtual 13, 3) := by decide +kernel
theorem dL_law_176 : decode cL_law 176 = .ok (.aload_n 2, 1) := by decide +kernel
theorem dL_law_177 : decode cL_law 177 = .ok (.aload_n 0, 1) := by decide +kernel
theorem dL_law_178 : decode cL_law 178 = .ok (.iload_n 3, 1) := by decide +kernel
theorem dL_law_179 : decode cL_law 179 = .ok (.iconst 1, 1) := by decide +kernel
theorem dL_law_180 : decode cL_law 180 = .ok (.iadd, 1) := by decide +kernel
theorem dL_law_181 : decode cL_law 181 = .ok (.iaload, 1) := by decide +kernel
theorem dL_law_182 : decode cL_law 182 = .ok (.aload_n 0, 1) := by decide +kernel
theorem dL_law_183 : decode cL_law 183 = .ok (.iload_n 3, 1) := by decide +kernel
theorem dL_law_184 : decode cL_law 184 = .ok (.iconst 2, 1) := by decide +kernel
theorem dL_law_185 : decode cL_law 185 = .ok (.iadd, 1) := by decide +kernel
theorem dL_law_186 : decode cL_law 186 = .ok (.iaload, 1) := by decide +kernel
theorem dL_law_187 : decode cL_law 187 = .ok (.aload_n 0, 1) := by decide +kernel
theorem dL_law_188 : decode cL_law 188 = .ok (.iload_n 3, 1) := by decide +kernel
theorem dL_law_189 : decode cL_law 189 = .ok (.iconst 3, 1) := by decide +kernel
theorem dL_law_190 : decode cL_law 190 = .ok (.iadd, 1) := by decide +kernel
theorem dL_law_191 : decode cL_law 191 = .ok (.iaload, 1) := by decide +kernel
theorem dL_law_192 : decode cL_law 192 = .ok (.aload_n 0, 1) := by decide +kernel
theorem dL_law_193 : decode cL_law 193 = .ok (.iload_n 3, 1) := by decide +kernel
theorem dL_law_194 : decode cL_law 194 = .ok (.iconst 4, 1) := by decide +kernel
theorem dL_law_195 : decode cL_law 195 = .ok (.iadd, 1) := by decide +kernel
theorem dL_law_196 : decode cL_law 196 = .ok (.iaload, 1) := by decide +kernel
theorem dL_law_197 : decode cL_law 197 = .ok (.invokevirtual 17, 3) := by decide +kernel
theorem dL_law_200 : decode cL_law 200 = .ok (.if_icmp .eq 551, 3) := by decide +kernel
theorem dL_law_203 : decode cL_law 203 = .ok (.iconst 0, 1) := by decide +kernel
theorem dL_law_204 : decode cL_law 204 = .ok (.ireturn, 1) := by decide +kernel
theorem dL_law_205 : decode cL_law 205 = .ok (.aload_n 1, 1) := by decide +kernel
theorem dL_law_206 : decode cL_law 206 = .ok (.aload_n 0, 1) := by decide +kernel
theorem dL_law_207 : decode cL_law 207 = .ok (.iload_n 3, 1) := by decide +kernel
theorem dL_law_208 : decode cL_law 208 = .ok (.iconst 1, 1) := by decide +kernel
theorem dL_law_209 : decode cL_law 209 = .ok (.iadd, 1) := by decide +kernel
theorem dL_law_210 : decode cL_law 210 = .ok (.iaload, 1) := by decide +kernel
theorem dL_law_211 : decode cL_law 211 = .ok (.aload_n 0, 1) := by decide +kernel
theorem dL_law_212 : decode cL_law 212 = .ok (.iload_n 3, 1) := by decide +kernel
theorem dL_law_213 : decode cL_law 213 = .ok (.iconst 2, 1) := by decide +kernel
theorem dL_law_214 : decode cL_law 214 = .ok (.iadd, 1) := by decide +kernel
theorem dL_law_215 : decode cL_law 215 = .ok (.iaload, 1) := by decide +kernel
theorem dL_law_216 : decode cL_law 216 = .ok (.aload_n 0, 1) := by decide +kernel
theorem dL_law_217 : decode cL_law 217 = .ok (.iload_n 3, 1) := by decide +kernel
theorem dL_law_218 : decode cL_law 218 = .ok (.iconst 3, 1) := by decide +kernel
theorem dL_law_219 : decode cL_law 219 = .ok (.iadd, 1) := by decide +kernel
theorem dL_law_220 : decode cL_law 220 = .ok (.iaload, 1) := by decide +kernel
theorem dL_law_221 : decode cL_law 221 = .ok (.aload_n 0, 1) := by decide +kernel
theorem dL_law_222 : decode cL_law 222 = .ok (.iload_n 3, 1) := by decide +kernel
theorem dL_law_223 : decode cL_law 223 = .ok (.iconst 4, 1) := by decide +kernel
theorem dL_law_224 : decode cL_law 224 = .ok (.iadd, 1) := by decide +kernel
theorem dL_law_225 : decode cL_law 225 = .ok (.iaload, 1) := by decide +kernel
theorem dL_law_226 : decode cL_law 226 = .ok (.aload_n 0, 1) := by decide +kernel
theorem dL_law_227 : decode cL_law 227 = .ok (.iload_n 3, 1) := by decide +kernel
theorem dL_law_228 : decode cL_law 228 = .ok (.iconst 5, 1) := by decide +kernel
theorem dL_law_229 : decode cL_law 229 = .ok (.iadd, 1) := by decide +kernel
theorem dL_law_230 : decode cL_law 230 = .ok (.iaload, 1) := by decide +kernel
theorem dL_law_231 : decode cL_law 231 = .ok (.invokevirtual 18, 3) := by decide +kernel
theorem dL_law_234 : decode cL_law 234 = .ok (.aload_n 2, 1) := by decide +kernel
theorem dL_law_235 : decode cL_law 235 = .ok (.aload_n 0, 1) := by decide +kernel
theorem dL_law_236 : decode cL_law 236 = .ok (.iload_n 3, 1) := by decide +kernel
theorem dL_law_237 : decode cL_law 237 = .ok (.iconst 1, 1) := by decide +kernel
theorem dL_law_238 : decode cL_law 238 = .ok (.iadd, 1) := by decide +kernel
theorem dL_law_239 : decode cL_law 239 = .ok (.iaload, 1) := by decide +kernel
theorem dL_law_240 : decode cL_law 240 = .ok (.aload_n 0, 1) := by decide +kernel
theorem dL_law_241 : decode cL_law 241 = .ok (.iload_n 3, 1) := by decide +kernel
theorem dL_law_242 : decode cL_law 242 = .ok (.iconst 2, 1) := by decide +kernel
theorem dL_law_243 : decode cL_law 243 = .ok (.iadd, 1) := by decide +kernel
theorem dL_law_244 : decode cL_law 244 = .ok (.iaload, 1) := by decide +kernel
theorem dL_law_245 : decode cL_law 245 = .ok (.aload_n 0, 1) := by decide +kernel
theorem dL_law_246 : decode cL_law 246 = .ok (.iload_n 3, 1) := by decide +kernel
theorem dL_law_247 : decode cL_law 247 = .ok (.iconst 3, 1) := by decide +kernel
theorem dL_law_248 : decode cL_law 248 = .ok (.iadd, 1) := by decide +kernel
theorem dL_law_249 : decode cL_law 249 = .ok (.iaload, 1) := by decide +kernel
theorem dL_law_250 : decode cL_law 250 = .ok (.aload_n 0, 1) := by decide +kernel
theorem dL_law_251 : decode cL_law 251 = .ok (.iload_n 3, 1) := by decide +kernel
theorem dL_law_252 : decode cL_law 252 = .ok (.iconst 4, 1) := by decide +kernel
theorem dL_law_253 : decode cL_law 253 = .ok (.iadd, 1) := by decide +kernel
theorem dL_law_254 : decode cL_law 254 = .ok (.iaload, 1) := by decide +kernel
theorem dL_law_255 : decode cL_law 255 = .ok (.aload_n 0, 1) := by decide +kernel
theorem dL_law_256 : decode cL_law 256 = .ok (.iload_n 3, 1) := by decide +kernel
theorem dL_law_257 : decode cL_law 257 = .ok (.iconst 5, 1) := by decide +kernel
theorem dL_law_258 : decode cL_law 258 = .ok (.iadd, 1) := by decide +kernel
theorem dL_law_259 : decode cL_law 259 = .ok (.iaload, 1) := by decide +kernel
theorem dL_law_260 : decode cL_law 260 = .ok (.invokevirtual 22, 3) := by decide +kernel
theorem dL_law_263 : decode cL_law 263 = .ok (.if_icmp .eq 488, 3) := by decide +kernel
theorem dL_law_266 : decode cL_law 266 = .ok (.iconst 0, 1) := by decide +kernel
theorem dL_law_267 : decode cL_law 267 = .ok (.ireturn, 1) := by decide +kernel
theorem dL_law_268 : decode cL_law 268 = .ok (.aload_n 1, 1) := by decide +kernel
theorem dL_law_269 : decode cL_law 269 = .ok (.aload_n 0, 1) := by decide +kernel
theorem dL_law_270 : decode cL_law 270 = .ok (.iload_n 3, 1) := by decide +kernel
theorem dL_law_271 : decode cL_law 271 = .ok (.iconst 1, 1) := by decide +kernel
theorem dL_law_272 : decode cL_law 272 = .ok (.iadd, 1) := by decide +kernel
theorem dL_law_273 : decode cL_law 273 = .ok (.iaload, 1) := by decide +kernel
theorem dL_law_274 : decode cL_law 274 = .ok (.invokevirtual 23, 3) := by decide +kernel
theorem dL_law_277 : decode cL_law 277 = .ok (.aload_n 2, 1) := by decide +kernel
theorem dL_law_278 : decode cL_law 278 = .ok (.aload_n 0, 1) := by decide +kernel
theorem dL_law_279 : decode cL_law 279 = .ok (.iload_n 3, 1) := by decide +kernel
theorem dL_law_280 : decode cL_law 280 = .ok (.iconst 1, 1) := by decide +kernel
theorem dL_law_281 : decode cL_law 281 = .ok (.iadd, 1) := by decide +kernel
theorem dL_law_282 : decode cL_law 282 = .ok (.iaload, 1) := by decide +kernel
theorem dL_law_283 : decode cL_law 283 = .ok (.invokevirtual 27, 3) := by decide +kernel
theorem dL_law_286 : decode cL_law 286 = .ok (.if_icmp .eq 465, 3) := by decide +kernel
theorem dL_law_289 : decode cL_law 289 = .ok (.iconst 0, 1) := by decide +kernel
theorem dL_law_290 : decode cL_law 290 = .ok (.ireturn, 1) := by decide +kernel
theorem dL_law_291 : decode cL_law 291 = .ok (.aload_n 1, 1) := by decide +kernel
theorem dL_law_292 : decode cL_law 292 = .ok (.aload_n 0, 1) := by decide +kernel
theorem dL_law_293 : decode cL_law 293 = .ok (.iload_n 3, 1) := by decide +kernel
theorem dL_law_294 : decode cL_law 294 = .ok (.iconst 1, 1) := by decide +kernel
theorem dL_law_295 : decode cL_law 295 = .ok (.iadd, 1) := by decide +kernel
theorem dL_law_296 : decode cL_law 296 = .ok (.iaload, 1) := by decide +kernel
theorem dL_law_297 : decode cL_law 297 = .ok (.aload_n 0, 1) := by decide +kernel
theorem dL_law_298 : decode cL_law 298 = .ok (.iload_n 3, 1) := by decide +kernel
theorem dL_law_299 : decode cL_law 299 = .ok (.iconst 2, 1) := by decide +kernel
theorem dL_law_300 : decode cL_law 300 = .ok (.iadd, 1) := by decide +kernel
theorem dL_law_301 : decode cL_law 301 = .ok (.iaload, 1) := by decide +kernel
theorem dL_law_302 : decode cL_law 302 = .ok (.invokevirtual 28, 3) := by decide +kernel
theorem dL_law_305 : decode cL_law 305 = .ok (.aload_n 2, 1) := by decide +kernel
theorem dL_law_306 : decode cL_law 306 = .ok (.aload_n 0, 1) := by decide +kernel
theorem dL_law_307 : decode cL_law 307 = .ok (.iload_n 3, 1) := by decide +kernel
theorem dL_law_308 : decode cL_law 308 = .ok (.iconst 1, 1) := by decide +kernel
theorem dL_law_309 : decode cL_law 309 = .ok (.iadd, 1) := by decide +kernel
theorem dL_law_310 : decode cL_law 310 = .ok (.iaload, 1) := by decide +kernel
theorem dL_law_311 : decode cL_law 311 = .ok (.aload_n 0, 1) := by decide +kernel
theorem dL_law_312 : decode cL_law 312 = .ok (.iload_n 3, 1) := by decide +kernel
theorem dL_law_313 : decode cL_law 313 = .ok (.iconst 2, 1) := by decide +kernel
theorem dL_law_314 : decode cL_law 314 = .ok (.iadd, 1) := by decide +kernel
theorem dL_law_315 : decode cL_law 315 = .ok (.iaload, 1) := by decide +kernel
theorem dL_law_316 : decode cL_law 316 = .ok (.invokevirtual 32, 3) := by decide +kernel
theorem dL_law_319 : decode cL_law 319 = .ok (.if_icmp .eq 432, 3) := by decide +kernel
theorem dL_law_322 : decode cL_law 322 = .ok (.iconst 0, 1) := by decide +kernel
theorem dL_law_323 : decode cL_law 323 = .ok (.ireturn, 1) := by decide +kernel
theorem dL_law_324 : decode cL_law 324 = .ok (.aload_n 1, 1) := by decide +kernel
theorem dL_law_325 : decode cL_law 325 = .ok (.aload_n 0, 1) := by decide +kernel
theorem dL_law_326 : decode cL_law 326 = .ok (.iload_n 3, 1) := by decide +kernel
theorem dL_law_327 : decode cL_law 327 = .ok (.iconst 1, 1) := by decide +kernel
theorem dL_law_328 : decode cL_law 328 = .ok (.iadd, 1) := by decide +kernel
theorem dL_law_329 : decode cL_law 329 = .ok (.iaload, 1) := by decide +kernel
theorem dL_law_330 : decode cL_law 330 = .ok (.invokevirtual 33, 3) := by decide +kernel
theorem dL_law_333 : decode cL_law 333 = .ok (.aload_n 2, 1) := by decide +kernel
theorem dL_law_334 : decode cL_law 334 = .ok (.aload_n 0, 1) := by decide +kernel
theorem dL_law_335 : decode cL_law 335 = .ok (.iload_n 3, 1) := by decide +kernel
theorem dL_law_336 : decode cL_law 336 = .ok (.iconst 1, 1) := by decide +kernel
theorem dL_law_337 : decode cL_law 337 = .ok (.iadd, 1) := by decide +kernel
theorem dL_law_338 : decode cL_law 338 = .ok (.iaload, 1) := by decide +kernel
theorem dL_law_339 : decode cL_law 339 = .ok (.invokevirtual 36, 3) := by decide +kernel
theorem dL_law_342 : decode cL_law 342 = .ok (.if_icmp .eq 409, 3) := by decide +kernel
theorem dL_law_345 : decode cL_law 345 = .ok (.iconst 0, 1) := by decide +kernel
theorem dL_law_346 : decode cL_law 346 = .ok (.ireturn, 1) := by decide +kernel
theorem dL_law_347 : decode cL_law 347 = .ok (.aload_n 1, 1) := by decide +kernel
theorem dL_law_348 : decode cL_law 348 = .ok (.invokevirtual 37, 3) := by decide +kernel
theorem dL_law_351 : decode cL_law 351 = .ok (.aload_n 2, 1) := by decide +kernel
theorem dL_law_352 : decode cL_law 352 = .ok (.invokevirtual 41, 3) := by decide +kernel
theorem dL_law_355 : decode cL_law 355 = .ok (.if_icmp .eq 396, 3) := by decide +kernel
theorem dL_law_358 : decode cL_law 358 = .ok (.iconst 0, 1) := by decide +kernel
theorem dL_law_359 : decode cL_law 359 = .ok (.ireturn, 1) := by decide +kernel
theorem dL_law_360 : decode cL_law 360 = .ok (.aload_n 1, 1) := by decide +kernel
theorem dL_law_361 : decode cL_law 361 = .ok (.aload_n 0, 1) := by decide +kernel
theorem dL_law_362 : decode cL_law 362 = .ok (.iload_n 3, 1) := by decide +kernel
theorem dL_law_363 : decode cL_law 363 = .ok (.iconst 1, 1) := by decide +kernel
theorem dL_law_364 : decode cL_law 364 = .ok (.iadd, 1) := by decide +kernel
theorem dL_law_365 : decode cL_law 365 = .ok (.iaload, 1) := by decide +kernel
theorem dL_law_366 : decode cL_law 366 = .ok (.invokevirtual 42, 3) := by decide +kernel
theorem dL_law_369 : decode cL_law 369 = .ok (.aload_n 2, 1) := by decide +kernel
theorem dL_law_370 : decode cL_law 370 = .ok (.aload_n 0, 1) := by decide +kernel
theorem dL_law_371 : decode cL_law 371 = .ok (.iload_n 3, 1) := by decide +kernel
theorem dL_law_372 : decode cL_law 372 = .ok (.iconst 1, 1) := by decide +kernel
theorem dL_law_373 : decode cL_law 373 = .ok (.iadd, 1) := by decide +kernel
theorem dL_law_374 : decode cL_law 374 = .ok (.iaload, 1) := by decide +kernel
theorem dL_law_375 : decode cL_law 375 = .ok (.invokevirtual 45, 3) := by decide +kernel
theorem dL_law_378 : decode cL_law 378 = .ok (.if_icmp .eq 373, 3) := by decide +kernel
theorem dL_law_381 : decode cL_law 381 = .ok (.iconst 0, 1) := by decide +kernel
theorem dL_law_382 : decode cL_law 382 = .ok (.ireturn, 1) := by decide +kernel
theorem dL_law_383 : decode cL_law 383 = .ok (.aload_n 1, 1) := by decide +kernel
theorem dL_law_384 : decode cL_law 384 = .ok (.invokevirtual 46, 3) := by decide +kernel
theorem dL_law_387 : decode cL_law 387 = .ok (.aload_n 2, 1) := by decide +kernel
theorem dL_law_388 : decode cL_law 388 = .ok (.invokevirtual 49, 3) := by decide +kernel
theorem dL_law_391 : decode cL_law 391 = .ok (.if_icmp .eq 360, 3) := by decide +kernel
theorem dL_law_394 : decode cL_law 394 = .ok (.iconst 0, 1) := by decide +kernel
theorem dL_law_395 : decode cL_law 395 = .ok (.ireturn, 1) := by decide +kernel
theorem dL_law_396 : decode cL_law 396 = .ok (.aload_n 1, 1) := by decide +kernel
theorem dL_law_397 : decode cL_law 397 = .ok (.aload_n 0, 1) := by decide +kernel
theorem dL_law_398 : decode cL_law 398 = .ok (.iload_n 3, 1) := by decide +kernel
theorem dL_law_399 : decode cL_law 399 = .ok (.iconst 1, 1) := by decide +kernel
theorem dL_law_400 : decode cL_law 400 = .ok (.iadd, 1) := by decide +kernel
theorem dL_law_401 : decode cL_law 401 = .ok (.iaload, 1) := by decide +kernel
theorem dL_law_402 : decode cL_law 402 = .ok (.invokevirtual 50, 3) := by decide +kernel
theorem dL_law_405 : decode cL_law 405 = .ok (.aload_n 2, 1) := by decide +kernel
theorem dL_law_406 : decode cL_law 406 = .ok (.aload_n 0, 1) := by decide +kernel
theorem dL_law_407 : decode cL_law 407 = .ok (.iload_n 3, 1) := by decide +kernel
theorem dL_law_408 : decode cL_law 408 = .ok (.iconst 1, 1) := by decide +kernel
theorem dL_law_409 : decode cL_law 409 = .ok (.iadd, 1) := by decide +kernel
theorem dL_law_410 : decode cL_law 410 = .ok (.iaload, 1) := by decide +kernel
theorem dL_law_411 : decode cL_law 411 = .ok (.invokevirtual 53, 3) := by decide +kernel
theorem dL_law_414 : decode cL_law 414 = .ok (.if_icmp .eq 337, 3) := by decide +kernel
theorem dL_law_417 : decode cL_law 417 = .ok (.iconst 0, 1) := by decide +kernel
theorem dL_law_418 : decode cL_law 418 = .ok (.ireturn, 1) := by decide +kernel
theorem dL_law_419 : decode cL_law 419 = .ok (.aload_n 1, 1) := by decide +kernel
theorem dL_law_420 : decode cL_law 420 = .ok (.invokevirtual 54, 3) := by decide +kernel
theorem dL_law_423 : decode cL_law 423 = .ok (.aload_n 2, 1) := by decide +kernel
theorem dL_law_424 : decode cL_law 424 = .ok (.invokevirtual 57, 3) := by decide +kernel
theorem dL_law_427 : decode cL_law 427 = .ok (.if_icmp .eq 324, 3) := by decide +kernel
theorem dL_law_430 : decode cL_law 430 = .ok (.iconst 0, 1) := by decide +kernel
theorem dL_law_431 : decode cL_law 431 = .ok (.ireturn, 1) := by decide +kernel
theorem dL_law_432 : decode cL_law 432 = .ok (.aload_n 1, 1) := by decide +kernel
theorem dL_law_433 : decode cL_law 433 = .ok (.aload_n 0, 1) := by decide +kernel
theorem dL_law_434 : decode cL_law 434 = .ok (.iload_n 3, 1) := by decide +kernel
theorem dL_law_435 : decode cL_law 435 = .ok (.iconst 1, 1) := by decide +kernel
theorem dL_law_436 : decode cL_law 436 = .ok (.iadd, 1) := by decide +kernel
theorem dL_law_437 : decode cL_law 437 = .ok (.iaload, 1) := by decide +kernel
theorem dL_law_438 : decode cL_law 438 = .ok (.invokevirtual 58, 3) := by decide +kernel
theorem dL_law_441 : decode cL_law 441 = .ok (.aload_n 2, 1) := by decide +kernel
theorem dL_law_442 : decode cL_law 442 = .ok (.aload_n 0, 1) := by decide +kernel
theorem dL_law_443 : decode cL_law 443 = .ok (.iload_n 3, 1) := by decide +kernel
theorem dL_law_444 : decode cL_law 444 = .ok (.iconst 1, 1) := by decide +kernel
theorem dL_law_445 : decode cL_law 445 = .ok (.iadd, 1) := by decide +kernel
theorem dL_law_446 : decode cL_law 446 = .ok (.iaload, 1) := by decide +kernel
theorem dL_law_447 : decode cL_law 447 = .ok (.invokevirtual 61, 3) := by decide +kernel
theorem dL_law_450 : decode cL_law 450 = .ok (.if_icmp .eq 301, 3) := by decide +kernel
theorem dL_law_453 : decode cL_law 453 = .ok (.iconst 0, 1) := by decide +kernel
theorem dL_law_454 : decode cL_law 454 = .ok (.ireturn, 1) := by decide +kernel
theorem dL_law_455 : decode cL_law 455 = .ok (.aload_n 1, 1) := by decide +kernel
theorem dL_law_456 : decode cL_law 456 = .ok (.aload_n 0, 1) := by decide +kernel
theorem dL_law_457 : decode cL_law 457 = .ok (.iload_n 3, 1) := by decide +kernel
theorem dL_law_458 : decode cL_law 458 = .ok (.iconst 1, 1) := by decide +kernel
theorem dL_law_459 : decode cL_law 459 = .ok (.iadd, 1) := by decide +kernel
theorem dL_law_460 : decode cL_law 460 = .ok (.iaload, 1) := by decide +kernel
theorem dL_law_461 : decode cL_law 461 = .ok (.invokevirtual 62, 3) := by decide +kernel
theorem dL_law_464 : decode cL_law 464 = .ok (.aload_n 2, 1) := by decide +kernel
theorem dL_law_465 : decode cL_law 465 = .ok (.aload_n 0, 1) := by decide +kernel
theorem dL_law_466 : decode cL_law 466 = .ok (.iload_n 3, 1) := by decide +kernel
theorem dL_law_467 : decode cL_law 467 = .ok (.iconst 1, 1) := by decide +kernel
theorem dL_law_468 : decode cL_law 468 = .ok (.iadd, 1) := by decide +kernel
theorem dL_law_469 : decode cL_law 469 = .ok (.iaload, 1) := by decide +kernel
theorem dL_law_470 : decode cL_law 470 = .ok (.invokevirtual 65, 3) := by decide +kernel
theorem dL_law_473 : decode cL_law 473 = .ok (.if_icmp .eq 278, 3) := by decide +kernel
theorem dL_law_476 : decode cL_law 476 = .ok (.iconst 0, 1) := by decide +kernel
theorem dL_law_477 : decode cL_law 477 = .ok (.ireturn, 1) := by decide +kernel
theorem dL_law_478 : decode cL_law 478 = .ok (.aload_n 1, 1) := by decide +kernel
theorem dL_law_479 : decode cL_law 479 = .ok (.aload_n 0, 1) := by decide +kernel
theorem dL_law_480 : decode cL_law 480 = .ok (.iload_n 3, 1) := by decide +kernel
theorem dL_law_481 : decode cL_law 481 = .ok (.iconst 1, 1) := by decide +kernel
theorem dL_law_482 : decode cL_law 482 = .ok (.iadd, 1) := by decide +kernel
theorem dL_law_483 : decode cL_law 483 = .ok (.iaload, 1) := by decide +kernel
theorem dL_law_484 : decode cL_law 484 = .ok (.invokevirtual 66, 3) := by decide +kernel
theorem dL_law_487 : decode cL_law 487 = .ok (.aload_n 2, 1) := by decide +kernel
theorem dL_law_488 : decode cL_law 488 = .ok (.aload_n 0, 1) := by decide +kernel
theorem dL_law_489 : decode cL_law 489 = .ok (.iload_n 3, 1) := by decide +kernel
theorem dL_law_490 : decode cL_law 490 = .ok (.iconst 1, 1) := by decide +kernel
theorem dL_law_491 : decode cL_law 491 = .ok (.iadd, 1) := by decide +kernel
theorem dL_law_492 : decode cL_law 492 = .ok (.iaload, 1) := by decide +kernel
theorem dL_law_493 : decode cL_law 493 = .ok (.invokevirtual 69, 3) := by decide +kernel
theorem dL_law_496 : decode cL_law 496 = .ok (.if_icmp .eq 255, 3) := by decide +kernel
theorem dL_law_499 : decode cL_law 499 = .ok (.iconst 0, 1) := by decide +kernel
theorem dL_law_500 : decode cL_law 500 = .ok (.ireturn, 1) := by decide +kernel
theorem dL_law_501 : decode cL_law 501 = .ok (.aload_n 1, 1) := by decide +kernel
theorem dL_law_502 : decode cL_law 502 = .ok (.aload_n 0, 1) := by decide +kernel
theorem dL_law_503 : decode cL_law 503 = .ok (.iload_n 3, 1) := by decide +kernel
theorem dL_law_504 : decode cL_law 504 = .ok (.iconst 1, 1) := by decide +kernel
theorem dL_law_505 : decode cL_law 505 = .ok (.iadd, 1) := by decide +kernel
theorem dL_law_506 : decode cL_law 506 = .ok (.iaload, 1) := by decide +kernel
theorem dL_law_507 : decode cL_law 507 = .ok (.invokevirtual 70, 3) := by decide +kernel
theorem dL_law_510 : decode cL_law 510 = .ok (.aload_n 2, 1) := by decide +kernel
theorem dL_law_511 : decode cL_law 511 = .ok (.aload_n 0, 1) := by decide +kernel
theorem dL_law_512 : decode cL_law 512 = .ok (.iload_n 3, 1) := by decide +kernel
theorem dL_law_513 : decode cL_law 513 = .ok (.iconst 1, 1) := by decide +kernel
theorem dL_law_514 : decode cL_law 514 = .ok (.iadd, 1) := by decide +kernel
theorem dL_law_515 : decode cL_law 515 = .ok (.iaload, 1) := by decide +kernel
theorem dL_law_516 : decode cL_law 516 = .ok (.invokevirtual 73, 3) := by decide +kernel
theorem dL_law_519 : decode cL_law 519 = .ok (.if_icmp .eq 232, 3) := by decide +kernel
theorem dL_law_522 : decode cL_law 522 = .ok (.iconst 0, 1) := by decide +kernel
theorem dL_law_523 : decode cL_law 523 = .ok (.ireturn, 1) := by decide +kernel
theorem dL_law_524 : decode cL_law 524 = .ok (.aload_n 1, 1) := by decide +kernel
theorem dL_law_525 : decode cL_law 525 = .ok (.aload_n 0, 1) := by decide +kernel
theorem dL_law_526 : decode cL_law 526 = .ok (.iload_n 3, 1) := by decide +kernel
theorem dL_law_527 : decode cL_law 527 = .ok (.iconst 1, 1) := by decide +kernel
theorem dL_law_528 : decode cL_law 528 = .ok (.iadd, 1) := by decide +kernel
theorem dL_law_529 : decode cL_law 529 = .ok (.iaload, 1) := by decide +kernel
theorem dL_law_530 : decode cL_law 530 = .ok (.invokevirtual 74, 3) := by decide +kernel
theorem dL_law_533 : decode cL_law 533 = .ok (.aload_n 2, 1) := by decide +kernel
theorem dL_law_534 : decode cL_law 534 = .ok (.aload_n 0, 1) := by decide +kernel
theorem dL_law_535 : decode cL_law 535 = .ok (.iload_n 3, 1) := by decide +kernel
theorem dL_law_536 : decode cL_law 536 = .ok (.iconst 1, 1) := by decide +kernel
theorem dL_law_537 : decode cL_law 537 = .ok (.iadd, 1) := by decide +kernel
theorem dL_law_538 : decode cL_law 538 = .ok (.iaload, 1) := by decide +kernel
theorem dL_law_539 : decode cL_law 539 = .ok (.invokevirtual 77, 3) := by decide +kernel
theorem dL_law_542 : decode cL_law 542 = .ok (.if_icmp .eq 209, 3) := by decide +kernel
theorem dL_law_545 : decode cL_law 545 = .ok (.iconst 0, 1) := by decide +kernel
theorem dL_law_546 : decode cL_law 546 = .ok (.ireturn, 1) := by decide +kernel
theorem dL_law_547 : decode cL_law 547 = .ok (.aload_n 1, 1) := by decide +kernel
theorem dL_law_548 : decode cL_law 548 = .ok (.aload_n 0, 1) := by decide +kernel
theorem dL_law_549 : decode cL_law 549 = .ok (.iload_n 3, 1) := by decide +kernel
theorem dL_law_550 : decode cL_law 550 = .ok (.iconst 1, 1) := by decide +kernel
theorem dL_law_551 : decode cL_law 551 = .ok (.iadd, 1) := by decide +kernel
theorem dL_law_552 : decode cL_law 552 = .ok (.iaload, 1) := by decide +kernel
theorem dL_law_553 : decode cL_law 553 = .ok (.invokevirtual 78, 3) := by decide +kernel
theorem dL_law_556 : decode cL_law 556 = .ok (.aload_n 2, 1) := by decide +kernel
theorem dL_law_557 : decode cL_law 557 = .ok (.aload_n 0, 1) := by decide +kernel
theorem dL_law_558 : decode cL_law 558 = .ok (.iload_n 3, 1) := by decide +kernel
theorem dL_law_559 : decode cL_law 559 = .ok (.iconst 1, 1) := by decide +kernel
theorem dL_law_560 : decode cL_law 560 = .ok (.iadd, 1) := by decide +kernel
theorem dL_law_561 : decode cL_law 561 = .ok (.iaload, 1) := by decide +kernel
theorem dL_law_562 : decode cL_law 562 = .ok (.invokevirtual 81, 3) := by decide +kernel
theorem dL_law_565 : decode cL_law 565 = .ok (.if_icmp .eq 186, 3) := by decide +kernel
theorem dL_law_568 : decode cL_law 568 = .ok (.iconst 0, 1) := by decide +kernel
theorem dL_law_569 : decode cL_law 569 = .ok (.ireturn, 1) := by decide +kernel
theorem dL_law_570 : decode cL_law 570 = .ok (.aload_n 1, 1) := by decide +kernel
theorem dL_law_571 : decode cL_law 571 = .ok (.invokevirtual 82, 3) := by decide +kernel
theorem dL_law_574 : decode cL_law 574 = .ok (.aload_n 2, 1) := by decide +kernel
theorem dL_law_575 : decode cL_law 575 = .ok (.invokevirtual 85, 3) := by decide +kernel
theorem dL_law_578 : decode cL_law 578 = .ok (.if_icmp .eq 173, 3) := by decide +kernel
theorem dL_law_581 : decode cL_law 581 = .ok (.iconst 0, 1) := by decide +kernel
theorem dL_law_582 : decode cL_law 582 = .ok (.ireturn, 1) := by decide +kernel
theorem dL_law_583 : decode cL_law 583 = .ok (.aload_n 1, 1) := by decide +kernel
theorem dL_law_584 : decode cL_law 584 = .ok (.aload_n 0, 1) := by decide +kernel
theorem dL_law_585 : decode cL_law 585 = .ok (.iload_n 3, 1) := by decide +kernel
theorem dL_law_586 : decode cL_law 586 = .ok (.iconst 1, 1) := by decide +kernel
theorem dL_law_587 : decode cL_law 587 = .ok (.iadd, 1) := by decide +kernel
theorem dL_law_588 : decode cL_law 588 = .ok (.iaload, 1) := by decide +kernel
theorem dL_law_589 : decode cL_law 589 = .ok (.invokevirtual 86, 3) := by decide +kernel
theorem dL_law_592 : decode cL_law 592 = .ok (.aload_n 2, 1) := by decide +kernel
theorem dL_law_593 : decode cL_law 593 = .ok (.aload_n 0, 1) := by decide +kernel
theorem dL_law_594 : decode cL_law 594 = .ok (.iload_n 3, 1) := by decide +kernel
theorem dL_law_595 : decode cL_law 595 = .ok (.iconst 1, 1) := by decide +kernel
theorem dL_law_596 : decode cL_law 596 = .ok (.iadd, 1) := by decide +kernel
theorem dL_law_597 : decode cL_law 597 = .ok (.iaload, 1) := by decide +kernel
theorem dL_law_598 : decode cL_law 598 = .ok (.invokevirtual 89, 3) := by decide +kernel
theorem dL_law_601 : decode cL_law 601 = .ok (.if_icmp .eq 150, 3) := by decide +kernel
theorem dL_law_604 : decode cL_law 604 = .ok (.iconst 0, 1) := by decide +kernel
theorem dL_law_605 : decode cL_law 605 = .ok (.ireturn, 1) := by decide +kernel
theorem dL_law_606 : decode cL_law 606 = .ok (.aload_n 1, 1) := by decide +kernel
theorem dL_law_607 : decode cL_law 607 = .ok (.aload_n 0, 1) := by decide +kernel
theorem dL_law_608 : decode cL_law 608 = .ok (.iload_n 3, 1) := by decide +kernel
theorem dL_law_609 : decode cL_law 609 = .ok (.iconst 1, 1) := by decide +kernel
theorem dL_law_610 : decode cL_law 610 = .ok (.iadd, 1) := by decide +kernel
theorem dL_law_611 : decode cL_law 611 = .ok (.iaload, 1) := by decide +kernel
theorem dL_law_612 : decode cL_law 612 = .ok (.invokevirtual 90, 3) := by decide +kernel
theorem dL_law_615 : decode cL_law 615 = .ok (.aload_n 2, 1) := by decide +kernel
theorem dL_law_616 : decode cL_law 616 = .ok (.aload_n 0, 1) := by decide +kernel
theorem dL_law_617 : decode cL_law 617 = .ok (.iload_n 3, 1) := by decide +kernel
theorem dL_law_618 : decode cL_law 618 = .ok (.iconst 1, 1) := by decide +kernel
theorem dL_law_619 : decode cL_law 619 = .ok (.iadd, 1) := by decide +kernel
theorem dL_law_620 : decode cL_law 620 = .ok (.iaload, 1) := by decide +kernel
theorem dL_law_621 : decode cL_law 621 = .ok (.invokevirtual 93, 3) := by decide +kernel
theorem dL_law_624 : decode cL_law 624 = .ok (.if_icmp .eq 127, 3) := by decide +kernel
theorem dL_law_627 : decode cL_law 627 = .ok (.iconst 0, 1) := by decide +kernel
theorem dL_law_628 : decode cL_law 628 = .ok (.ireturn, 1) := by decide +kernel
theorem dL_law_629 : decode cL_law 629 = .ok (.aload_n 1, 1) := by decide +kernel
theorem dL_law_630 : decode cL_law 630 = .ok (.aload_n 0, 1) := by decide +kernel
theorem dL_law_631 : decode cL_law 631 = .ok (.iload_n 3, 1) := by decide +kernel
theorem dL_law_632 : decode cL_law 632 = .ok (.iconst 1, 1) := by decide +kernel
theorem dL_law_633 : decode cL_law 633 = .ok (.iadd, 1) := by decide +kernel
theorem dL_law_634 : decode cL_law 634 = .ok (.iaload, 1) := by decide +kernel
theorem dL_law_635 : decode cL_law 635 = .ok (.invokevirtual 94, 3) := by decide +kernel
theorem dL_law_638 : decode cL_law 638 = .ok (.aload_n 2, 1) := by decide +kernel
theorem dL_law_639 : decode cL_law 639 = .ok (.aload_n 0, 1) := by decide +kernel
theorem dL_law_640 : decode cL_law 640 = .ok (.iload_n 3, 1) := by decide +kernel
theorem dL_law_641 : decode cL_law 641 = .ok (.iconst 1, 1) := by decide +kernel
theorem dL_law_642 : decode cL_law 642 = .ok (.iadd, 1) := by decide +kernel
theorem dL_law_643 : decode cL_law 643 = .ok (.iaload, 1) := by decide +kernel
theorem dL_law_644 : decode cL_law 644 = .ok (.invokevirtual 97, 3) := by decide +kernel
theorem dL_law_647 : decode cL_law 647 = .ok (.if_icmp .eq 104, 3) := by decide +kernel
theorem dL_law_650 : decode cL_law 650 = .ok (.iconst 0, 1) := by decide +kernel
theorem dL_law_651 : decode cL_law 651 = .ok (.ireturn, 1) := by decide +kernel
theorem dL_law_652 : decode cL_law 652 = .ok (.aload_n 1, 1) := by decide +kernel
theorem dL_law_653 : decode cL_law 653 = .ok (.invokevirtual 98, 3) := by decide +kernel
theorem dL_law_656 : decode cL_law 656 = .ok (.aload_n 2, 1) := by decide +kernel
theorem dL_law_657 : decode cL_law 657 = .ok (.invokevirtual 101, 3) := by decide +kernel
theorem dL_law_660 : decode cL_law 660 = .ok (.if_icmp .eq 91, 3) := by decide +kernel
theorem dL_law_663 : decode cL_law 663 = .ok (.iconst 0, 1) := by decide +kernel
theorem dL_law_664 : decode cL_law 664 = .ok (.ireturn, 1) := by decide +kernel
theorem dL_law_665 : decode cL_law 665 = .ok (.aload_n 1, 1) := by decide +kernel
theorem dL_law_666 : decode cL_law 666 = .ok (.aload_n 0, 1) := by decide +kernel
theorem dL_law_667 : decode cL_law 667 = .ok (.iload_n 3, 1) := by decide +kernel
theorem dL_law_668 : decode cL_law 668 = .ok (.iconst 1, 1) := by decide +kernel
theorem dL_law_669 : decode cL_law 669 = .ok (.iadd, 1) := by decide +kernel
theorem dL_law_670 : decode cL_law 670 = .ok (.iaload, 1) := by decide +kernel
theorem dL_law_671 : decode cL_law 671 = .ok (.invokevirtual 102, 3) := by decide +kernel
theorem dL_law_674 : decode cL_law 674 = .ok (.aload_n 2, 1) := by decide +kernel
theorem dL_law_675 : decode cL_law 675 = .ok (.aload_n 0, 1) := by decide +kernel
theorem dL_law_676 : decode cL_law 676 = .ok (.iload_n 3, 1) := by decide +kernel
theorem dL_law_677 : decode cL_law 677 = .ok (.iconst 1, 1) := by decide +kernel
theorem dL_law_678 : decode cL_law 678 = .ok (.iadd, 1) := by decide +kernel
theorem dL_law_679 : decode cL_law 679 = .ok (.iaload, 1) := by decide +kernel
theorem dL_law_680 : decode cL_law 680 = .ok (.invokevirtual 105, 3) := by decide +kernel
theorem dL_law_683 : decode cL_law 683 = .ok (.if_icmp .eq 68, 3) := by decide +kernel
theorem dL_law_686 : decode cL_law 686 = .ok (.iconst 0, 1) := by decide +kernel
theorem dL_law_687 : decode cL_law 687 = .ok (.ireturn, 1) := by decide +kernel
theorem dL_law_688 : decode cL_law 688 = .ok (.aload_n 1, 1) := by decide +kernel
theorem dL_law_689 : decode cL_law 689 = .ok (.invokevirtual 106, 3) := by decide +kernel
theorem dL_law_692 : decode cL_law 692 = .ok (.aload_n 2, 1) := by decide +kernel
theorem dL_law_693 : decode cL_law 693 = .ok (.invokevirtual 109, 3) := by decide +kernel
theorem dL_law_696 : decode cL_law 696 = .ok (.if_icmp .eq 55, 3) := by decide +kernel
theorem dL_law_699 : decode cL_law 699 = .ok (.iconst 0, 1) := by decide +kernel
theorem dL_law_700 : decode cL_law 700 = .ok (.ireturn, 1) := by decide +kernel
theorem dL_law_701 : decode cL_law 701 = .ok (.aload_n 1, 1) := by decide +kernel
theorem dL_law_702 : decode cL_law 702 = .ok (.invokevirtual 110, 3) := by decide +kernel
theorem dL_law_705 : decode cL_law 705 = .ok (.aload_n 2, 1) := by decide +kernel
theorem dL_law_706 : decode cL_law 706 = .ok (.invokevirtual 113, 3) := by decide +kernel
theorem dL_law_709 : decode cL_law 709 = .ok (.if_icmp .eq 42, 3) := by decide +kernel
theorem dL_law_712 : decode cL_law 712 = .ok (.iconst 0, 1) := by decide +kernel
theorem dL_law_713 : decode cL_law 713 = .ok (.ireturn, 1) := by decide +kernel
theorem dL_law_714 : decode cL_law 714 = .ok (.aload_n 1, 1) := by decide +kernel
theorem dL_law_715 : decode cL_law 715 = .ok (.aload_n 0, 1) := by decide +kernel
theorem dL_law_716 : decode cL_law 716 = .ok (.iload_n 3, 1) := by decide +kernel
theorem dL_law_717 : decode cL_law 717 = .ok (.iconst 1, 1) := by decide +kernel
theorem dL_law_718 : decode cL_law 718 = .ok (.iadd, 1) := by decide +kernel
theorem dL_law_719 : decode cL_law 719 = .ok (.iaload, 1) := by decide +kernel
theorem dL_law_720 : decode cL_law 720 = .ok (.invokevirtual 114, 3) := by decide +kernel
theorem dL_law_723 : decode cL_law 723 = .ok (.aload_n 2, 1) := by decide +kernel
theorem dL_law_724 : decode cL_law 724 = .ok (.aload_n 0, 1) := by decide +kernel
theorem dL_law_725 : decode cL_law 725 = .ok (.iload_n 3, 1) := by decide +kernel
theorem dL_law_726 : decode cL_law 726 = .ok (.iconst 1, 1) := by decide +kernel
theorem dL_law_727 : decode cL_law 727 = .ok (.iadd, 1) := by decide +kernel
theorem dL_law_728 : decode cL_law 728 = .ok (.iaload, 1) := by decide +kernel
theorem dL_law_729 : decode cL_law 729 = .ok (.invokevirtual 117, 3) := by decide +kernel
theorem dL_law_732 : decode cL_law 732 = .ok (.if_icmp .eq 19, 3) := by decide +kernel
theorem dL_law_735 : decode cL_law 735 = .ok (.iconst 0, 1) := by decide +kernel
theorem dL_law_736 : decode cL_law 736 = .ok (.ireturn, 1) := by decide +kernel
theorem dL_law_737 : decode cL_law 737 = .ok (.aload_n 1, 1) := by decide +kernel
theorem dL_law_738 : decode cL_law 738 = .ok (.invokevirtual 118, 3) := by decide +kernel
theorem dL_law_741 : decode cL_law 741 = .ok (.aload_n 2, 1) := by decide +kernel
theorem dL_law_742 : decode cL_law 742 = .ok (.invokevirtual 122, 3) := by decide +kernel
theorem dL_law_745 : decode cL_law 745 = .ok (.lcmp, 1) := by decide +kernel
theorem dL_law_746 : decode cL_law 746 = .ok (.ifCond .eq 5, 3) := by decide +kernel
theorem dL_law_749 : decode cL_law 749 = .ok (.iconst 0, 1) := by decide +kernel
theorem dL_law_750 : decode cL_law 750 = .ok (.ireturn, 1) := by decide +kernel
theorem dL_law_751 : decode cL_law 751 = .ok (.iinc 3 6, 3) := by decide +kernel
theorem dL_law_754 : decode cL_law 754 = .ok (.goto (-736), 3) := by decide +kernel
theorem dL_law_757 : decode cL_law 757 = .ok (.iconst 1, 1) := by decide +kernel
theorem dL_law_758 : decode cL_law 758 = .ok (.ireturn, 1) := by decide +kernel
end
section
def wsL_law_r1 : List Cond := [Cond.classLink RL 7 RX3, Cond.instantiable RX3 6, Cond.initialized RX3, Cond.classLink RL 10 RX4, Cond.instantiable RX4 12, Cond.initialized RX4, Cond.methodLink RL 9 yX3_init, Cond.instanceMethod yX3_init, Cond.code yX3_init cX3_init 2 none, Cond.methodLink RX3 3 objectInit, Cond.instanceMethod objectInit, Cond.code objectInit ⟨#[0xb1]⟩ 1 none, Cond.classLink RX3 9 RX2, Cond.instantiable RX2 7, Cond.initialized RX2, Cond.fieldLink RX3 12 "ReactiveNotebook" "state" "LReactiveNotebook$State;", Cond.fieldLink RX3 16 "ReactiveNotebook" "saved" "[LReactiveNotebook$State;", Cond.fieldLink RX3 20 "ReactiveNotebook" "savedCount" "I", Cond.arrayClass .int, Cond.fieldLink RX3 24 "ReactiveNotebook" "errorCounts" "[I", Cond.classLink RX3 28 RX1, Cond.instantiable RX1 7, Cond.initialized RX1, Cond.fieldLink RX3 31 "ReactiveNotebook" "graph" "LReactiveNotebook$Graph;"]
def wsL_law_r2 : List Cond := [Cond.fieldLink RX3 35 "ReactiveNotebook" "freshCells" "I", Cond.methodLink RX3 11 yX2_init, Cond.instanceMethod yX2_init, Cond.code yX2_init cX2_init 2 none, Cond.methodLink RX2 3 objectInit, Cond.classLink RX2 9 RX0, Cond.fieldLink RX2 11 "ReactiveNotebook$State" "cells" "[LReactiveNotebook$Cell;", Cond.fieldLink RX2 17 "ReactiveNotebook$State" "count" "I", Cond.fieldLink RX2 21 "ReactiveNotebook$State" "eager" "I", Cond.fieldLink RX2 24 "ReactiveNotebook$State" "totalRuns" "I", Cond.fieldLink RX2 27 "ReactiveNotebook$State" "greatestVersion" "I", Cond.fieldLink RX2 30 "ReactiveNotebook$State" "lastRunCells" "[I", Cond.fieldLink RX2 34 "ReactiveNotebook$State" "lastRunCount" "I", Cond.instantiable RX0 9, Cond.initialized RX0, Cond.instanceMethod yX0_init, Cond.code yX0_init cX0_init 1 none, Cond.methodLink RX0 3 objectInit, Cond.methodLink RX3 30 yX1_init, Cond.instanceMethod yX1_init, Cond.code yX1_init cX1_init 1 none, Cond.methodLink RX1 3 objectInit, Cond.fieldLink RX1 9 "ReactiveNotebook$Graph" "definers" "[I", Cond.fieldLink RX1 15 "ReactiveNotebook$Graph" "soleDefiners" "[I"]
def wsL_law_r3 : List Cond := [Cond.fieldLink RX1 18 "ReactiveNotebook$Graph" "dependencies" "[I", Cond.fieldLink RX1 21 "ReactiveNotebook$Graph" "allDependencies" "[I", Cond.fieldLink RX1 24 "ReactiveNotebook$Graph" "staticErrors" "[I", Cond.fieldLink RX1 27 "ReactiveNotebook$Graph" "runOrder" "[I", Cond.fieldLink RX1 30 "ReactiveNotebook$Graph" "runnableCount" "I", Cond.methodLink RX1 34 yX1_clearDefiners, Cond.instanceMethod yX1_clearDefiners, Cond.selects RX1 yX1_clearDefiners yX1_clearDefiners, Cond.code yX1_clearDefiners cX1_clearDefiners 2 none, Cond.methodLink RL 12 yX4_init, Cond.instanceMethod yX4_init, Cond.code yX4_init cX4_init 1 none, Cond.methodLink RX4 1 objectInit, Cond.fieldLink RX4 7 "ReactiveNotebookModel" "now" "[I", Cond.fieldLink RX4 13 "ReactiveNotebookModel" "past" "[I", Cond.fieldLink RX4 16 "ReactiveNotebookModel" "counts" "[I", Cond.fieldLink RX4 19 "ReactiveNotebookModel" "direct" "[I", Cond.fieldLink RX4 22 "ReactiveNotebookModel" "wrong" "[I", Cond.fieldLink RX4 25 "ReactiveNotebookModel" "all" "[I", Cond.fieldLink RX4 28 "ReactiveNotebookModel" "order" "[I", Cond.arrayClass .boolean, Cond.fieldLink RX4 31 "ReactiveNotebookModel" "fresh" "[Z", Cond.fieldLink RX4 35 "ReactiveNotebookModel" "moved" "[I", Cond.methodLink RL 13 yX3_addCell]
def wsL_law_r4 : List Cond := [Cond.instanceMethod yX3_addCell, Cond.selects RX3 yX3_addCell yX3_addCell, Cond.code yX3_addCell cX3_addCell 5 (some .int), Cond.fieldLink RX3 46 "ReactiveNotebook$State" "count" "I", Cond.methodLink RX3 38 yX3_isDefinition, Cond.static yX3_isDefinition, Cond.code yX3_isDefinition cX3_isDefinition 4 (some .boolean), Cond.methodLink RX3 115 yX3_isVariable, Cond.static yX3_isVariable, Cond.code yX3_isVariable cX3_isVariable 1 (some .boolean), Cond.methodLink RX3 178 yX3_isOperand, Cond.static yX3_isOperand, Cond.code yX3_isOperand cX3_isOperand 1 (some .boolean), Cond.methodLink RX3 42 yX3_fail, Cond.instanceMethod yX3_fail, Cond.selects RX3 yX3_fail yX3_fail, Cond.code yX3_fail cX3_fail 3 (some .int), Cond.methodLink RX3 49 yX3_save, Cond.instanceMethod yX3_save, Cond.selects RX3 yX3_save yX3_save, Cond.code yX3_save cX3_save 1 none, Cond.methodLink RX3 181 yX3_dropOldest, Cond.instanceMethod yX3_dropOldest, Cond.selects RX3 yX3_dropOldest yX3_dropOldest]
def wsL_law_r5 : List Cond := [Cond.code yX3_dropOldest cX3_dropOldest 3 none, Cond.methodLink RX3 150 yX2_copyFrom, Cond.instanceMethod yX2_copyFrom, Cond.selects RX2 yX2_copyFrom yX2_copyFrom, Cond.code yX2_copyFrom cX2_copyFrom 3 none, Cond.methodLink RX2 38 yX0_copyFrom, Cond.instanceMethod yX0_copyFrom, Cond.selects RX0 yX0_copyFrom yX0_copyFrom, Cond.code yX0_copyFrom cX0_copyFrom 2 none, Cond.fieldLink RX0 9 "ReactiveNotebook$Cell" "variable" "I", Cond.fieldLink RX0 15 "ReactiveNotebook$Cell" "operator" "I", Cond.fieldLink RX0 18 "ReactiveNotebook$Cell" "left" "I", Cond.fieldLink RX0 21 "ReactiveNotebook$Cell" "right" "I", Cond.fieldLink RX0 27 "ReactiveNotebook$Cell" "result" "I", Cond.fieldLink RX0 24 "ReactiveNotebook$Cell" "version" "I", Cond.fieldLink RX0 30 "ReactiveNotebook$Cell" "leftVersion" "I", Cond.fieldLink RX0 33 "ReactiveNotebook$Cell" "rightVersion" "I", Cond.fieldLink RX0 36 "ReactiveNotebook$Cell" "runs" "I", Cond.methodLink RX3 52 yX2_append, Cond.instanceMethod yX2_append, Cond.selects RX2 yX2_append yX2_append, Cond.code yX2_append cX2_append 6 none, Cond.fieldLink RX2 46 "ReactiveNotebook$Cell" "runs" "I", Cond.methodLink RX2 42 yX0_define]
def wsL_law_r6 : List Cond := [Cond.instanceMethod yX0_define, Cond.selects RX0 yX0_define yX0_define, Cond.code yX0_define cX0_define 5 none, Cond.methodLink RX3 56 yX3_finishEditing, Cond.instanceMethod yX3_finishEditing, Cond.selects RX3 yX3_finishEditing yX3_finishEditing, Cond.code yX3_finishEditing cX3_finishEditing 1 none, Cond.fieldLink RX3 88 "ReactiveNotebook$State" "eager" "I", Cond.methodLink RX3 154 yX1_derive, Cond.instanceMethod yX1_derive, Cond.selects RX1 yX1_derive yX1_derive, Cond.code yX1_derive cX1_derive 2 none, Cond.fieldLink RX1 44 "ReactiveNotebook$State" "count" "I", Cond.methodLink RX1 37 yX1_findDefiners, Cond.instanceMethod yX1_findDefiners, Cond.selects RX1 yX1_findDefiners yX1_findDefiners, Cond.code yX1_findDefiners cX1_findDefiners 4 none, Cond.fieldLink RX1 63 "ReactiveNotebook$State" "cells" "[LReactiveNotebook$Cell;", Cond.fieldLink RX1 67 "ReactiveNotebook$Cell" "variable" "I", Cond.methodLink RX1 41 yX1_findDependencies, Cond.instanceMethod yX1_findDependencies, Cond.selects RX1 yX1_findDependencies yX1_findDependencies, Cond.code yX1_findDependencies cX1_findDependencies 3 none, Cond.fieldLink RX1 75 "ReactiveNotebook$Cell" "left" "I"]
def wsL_law_r7 : List Cond := [Cond.fieldLink RX1 82 "ReactiveNotebook$Cell" "right" "I", Cond.methodLink RX1 78 yX1_dependencyOn, Cond.instanceMethod yX1_dependencyOn, Cond.selects RX1 yX1_dependencyOn yX1_dependencyOn, Cond.code yX1_dependencyOn cX1_dependencyOn 3 (some .int), Cond.methodLink RX1 85 yX1_soleDefinerOf, Cond.instanceMethod yX1_soleDefinerOf, Cond.selects RX1 yX1_soleDefinerOf yX1_soleDefinerOf, Cond.code yX1_soleDefinerOf cX1_soleDefinerOf 2 (some .int), Cond.static yX3_isVariableOperand, Cond.code yX3_isVariableOperand cX3_isVariableOperand 1 (some .boolean), Cond.methodLink RX1 49 yX1_closeDependencies, Cond.instanceMethod yX1_closeDependencies, Cond.selects RX1 yX1_closeDependencies yX1_closeDependencies, Cond.code yX1_closeDependencies cX1_closeDependencies 4 none, Cond.static yX3_contains, Cond.code yX3_contains cX3_contains 2 (some .boolean), Cond.methodLink RX1 53 yX1_findStaticErrors, Cond.instanceMethod yX1_findStaticErrors, Cond.selects RX1 yX1_findStaticErrors yX1_findStaticErrors, Cond.code yX1_findStaticErrors cX1_findStaticErrors 4 none, Cond.methodLink RX1 92 yX1_ownError, Cond.instanceMethod yX1_ownError, Cond.selects RX1 yX1_ownError yX1_ownError]
def wsL_law_r8 : List Cond := [Cond.code yX1_ownError cX1_ownError 3 (some .int), Cond.methodLink RX1 100 yX1_isUndefined, Cond.instanceMethod yX1_isUndefined, Cond.selects RX1 yX1_isUndefined yX1_isUndefined, Cond.code yX1_isUndefined cX1_isUndefined 2 (some .boolean), Cond.methodLink RX1 103 yX1_definersOf, Cond.instanceMethod yX1_definersOf, Cond.selects RX1 yX1_definersOf yX1_definersOf, Cond.code yX1_definersOf cX1_definersOf 2 (some .int), Cond.methodLink RX1 96 yX1_spreadBadInput, Cond.instanceMethod yX1_spreadBadInput, Cond.selects RX1 yX1_spreadBadInput yX1_spreadBadInput, Cond.code yX1_spreadBadInput cX1_spreadBadInput 7 none, Cond.methodLink RX1 56 yX1_buildRunOrder, Cond.instanceMethod yX1_buildRunOrder, Cond.selects RX1 yX1_buildRunOrder yX1_buildRunOrder, Cond.code yX1_buildRunOrder cX1_buildRunOrder 5 none, Cond.methodLink RX1 106 yX1_lowestReady, Cond.instanceMethod yX1_lowestReady, Cond.selects RX1 yX1_lowestReady yX1_lowestReady, Cond.code yX1_lowestReady cX1_lowestReady 5 (some .int), Cond.methodLink RX3 91 yX3_startLastRun, Cond.instanceMethod yX3_startLastRun, Cond.selects RX3 yX3_startLastRun yX3_startLastRun]
def wsL_law_r9 : List Cond := [Cond.code yX3_startLastRun cX3_startLastRun 1 none, Cond.fieldLink RX3 97 "ReactiveNotebook$State" "lastRunCount" "I", Cond.methodLink RX3 94 yX3_walkRunOrder, Cond.instanceMethod yX3_walkRunOrder, Cond.selects RX3 yX3_walkRunOrder yX3_walkRunOrder, Cond.code yX3_walkRunOrder cX3_walkRunOrder 5 none, Cond.fieldLink RX3 139 "ReactiveNotebook$Graph" "runnableCount" "I", Cond.fieldLink RX3 142 "ReactiveNotebook$Graph" "runOrder" "[I", Cond.methodLink RX3 184 yX3_isUpToDate, Cond.instanceMethod yX3_isUpToDate, Cond.selects RX3 yX3_isUpToDate yX3_isUpToDate, Cond.code yX3_isUpToDate cX3_isUpToDate 3 (some .boolean), Cond.fieldLink RX3 63 "ReactiveNotebook$State" "cells" "[LReactiveNotebook$Cell;", Cond.fieldLink RX3 121 "ReactiveNotebook$Cell" "version" "I", Cond.fieldLink RX3 130 "ReactiveNotebook$Graph" "dependencies" "[I", Cond.fieldLink RX3 194 "ReactiveNotebook$Cell" "leftVersion" "I", Cond.fieldLink RX3 170 "ReactiveNotebook$Cell" "left" "I", Cond.fieldLink RX3 200 "ReactiveNotebook$Cell" "rightVersion" "I", Cond.fieldLink RX3 173 "ReactiveNotebook$Cell" "right" "I", Cond.methodLink RX3 197 yX3_inputVersion, Cond.instanceMethod yX3_inputVersion, Cond.selects RX3 yX3_inputVersion yX3_inputVersion, Cond.code yX3_inputVersion cX3_inputVersion 3 (some .int), Cond.methodLink RX3 219 yX1_soleDefinerOf]
def wsL_law_r10 : List Cond := [Cond.methodLink RX3 187 yX3_contains, Cond.methodLink RX3 191 yX3_run, Cond.instanceMethod yX3_run, Cond.selects RX3 yX3_run yX3_run, Cond.code yX3_run cX3_run 4 none, Cond.fieldLink RX3 167 "ReactiveNotebook$Cell" "operator" "I", Cond.fieldLink RX3 210 "ReactiveNotebook$Cell" "result" "I", Cond.fieldLink RX3 213 "ReactiveNotebook$State" "greatestVersion" "I", Cond.fieldLink RX3 124 "ReactiveNotebook$Cell" "runs" "I", Cond.methodLink RX3 203 yX3_inputResult, Cond.instanceMethod yX3_inputResult, Cond.selects RX3 yX3_inputResult yX3_inputResult, Cond.code yX3_inputResult cX3_inputResult 3 (some .int), Cond.methodLink RX3 206 yX3_combine, Cond.static yX3_combine, Cond.code yX3_combine cX3_combine 3 (some .int), Cond.methodLink RX3 228 Lib.Math.max.name, Cond.static Lib.Math.max.name, Cond.initialized "java/lang/Math", Cond.code Lib.Math.max.name Lib.Math.max.code 2 (some .int), Cond.methodLink RX3 232 Lib.Math.min.name, Cond.static Lib.Math.min.name, Cond.code Lib.Math.min.name Lib.Math.min.code 2 (some .int), Cond.methodLink RX3 222 yX3_isErrorResult]
def wsL_law_r11 : List Cond := [Cond.static yX3_isErrorResult, Cond.code yX3_isErrorResult cX3_isErrorResult 1 (some .boolean), Cond.methodLink RX3 225 yX3_limit, Cond.static yX3_limit, Cond.code yX3_limit cX3_limit 1 (some .int), Cond.methodLink RX3 216 yX2_recordRun, Cond.instanceMethod yX2_recordRun, Cond.selects RX2 yX2_recordRun yX2_recordRun, Cond.code yX2_recordRun cX2_recordRun 2 none, Cond.methodLink RL 17 yX4_addCell, Cond.instanceMethod yX4_addCell, Cond.selects RX4 yX4_addCell yX4_addCell, Cond.code yX4_addCell cX4_addCell 6 (some .int), Cond.methodLink RX4 121 yX4_isDefinition, Cond.static yX4_isDefinition, Cond.code yX4_isDefinition cX4_isDefinition 4 (some .boolean), Cond.methodLink RX4 42 yX4_in, Cond.static yX4_in, Cond.code yX4_in cX4_in 3 (some .boolean), Cond.methodLink RX4 118 yX4_error, Cond.instanceMethod yX4_error, Cond.selects RX4 yX4_error yX4_error, Cond.code yX4_error cX4_error 2 (some .int), Cond.methodLink RX4 112 yX4_save]
def wsL_law_r12 : List Cond := [Cond.instanceMethod yX4_save, Cond.selects RX4 yX4_save yX4_save, Cond.code yX4_save cX4_save 2 none, Cond.fieldLink RX4 46 "ReactiveNotebookModel" "states" "I", Cond.methodLink RX4 125 yX4_define, Cond.instanceMethod yX4_define, Cond.selects RX4 yX4_define yX4_define, Cond.code yX4_define cX4_define 6 none, Cond.methodLink RX4 38 yX4_at, Cond.static yX4_at, Cond.code yX4_at cX4_at 2 (some .int), Cond.methodLink RX4 129 yX4_runIfEager, Cond.instanceMethod yX4_runIfEager, Cond.selects RX4 yX4_runIfEager yX4_runIfEager, Cond.code yX4_runIfEager cX4_runIfEager 1 none, Cond.methodLink RX4 109 yX4_runThrough, Cond.instanceMethod yX4_runThrough, Cond.selects RX4 yX4_runThrough yX4_runThrough, Cond.code yX4_runThrough cX4_runThrough 4 none, Cond.fieldLink RX4 70 "ReactiveNotebookModel" "orderLength" "I", Cond.methodLink RX4 102 yX4_derive, Cond.instanceMethod yX4_derive, Cond.selects RX4 yX4_derive yX4_derive, Cond.code yX4_derive cX4_derive 2 none]
def wsL_law_r13 : List Cond := [Cond.methodLink RX4 77 yX4_deriveDependencies, Cond.instanceMethod yX4_deriveDependencies, Cond.selects RX4 yX4_deriveDependencies yX4_deriveDependencies, Cond.code yX4_deriveDependencies cX4_deriveDependencies 4 none, Cond.methodLink RX4 50 yX4_get, Cond.instanceMethod yX4_get, Cond.selects RX4 yX4_get yX4_get, Cond.code yX4_get cX4_get 3 (some .int), Cond.methodLink RX4 60 yX4_source, Cond.instanceMethod yX4_source, Cond.selects RX4 yX4_source yX4_source, Cond.code yX4_source cX4_source 2 (some .int), Cond.methodLink RX4 53 yX4_definersOf, Cond.instanceMethod yX4_definersOf, Cond.selects RX4 yX4_definersOf yX4_definersOf, Cond.code yX4_definersOf cX4_definersOf 4 (some .int), Cond.methodLink RX4 57 yX4_only, Cond.static yX4_only, Cond.code yX4_only cX4_only 2 (some .int), Cond.methodLink RX4 80 yX4_deriveErrors, Cond.instanceMethod yX4_deriveErrors, Cond.selects RX4 yX4_deriveErrors yX4_deriveErrors, Cond.code yX4_deriveErrors cX4_deriveErrors 4 none, Cond.methodLink RX4 63 yX4_isUndefined]
def wsL_law_r14 : List Cond := [Cond.instanceMethod yX4_isUndefined, Cond.selects RX4 yX4_isUndefined yX4_isUndefined, Cond.code yX4_isUndefined cX4_isUndefined 2 (some .boolean), Cond.methodLink RX4 67 yX4_isBad, Cond.instanceMethod yX4_isBad, Cond.selects RX4 yX4_isBad yX4_isBad, Cond.code yX4_isBad cX4_isBad 4 (some .boolean), Cond.methodLink RX4 83 yX4_deriveOrder, Cond.instanceMethod yX4_deriveOrder, Cond.selects RX4 yX4_deriveOrder yX4_deriveOrder, Cond.code yX4_deriveOrder cX4_deriveOrder 4 none, Cond.methodLink RX4 86 yX4_isFreshNow, Cond.instanceMethod yX4_isFreshNow, Cond.selects RX4 yX4_isFreshNow yX4_isFreshNow, Cond.code yX4_isFreshNow cX4_isFreshNow 2 (some .boolean), Cond.methodLink RX4 73 yX4_isKnown, Cond.instanceMethod yX4_isKnown, Cond.selects RX4 yX4_isKnown yX4_isKnown, Cond.code yX4_isKnown cX4_isKnown 4 (some .boolean), Cond.methodLink RX4 105 yX4_runOne, Cond.instanceMethod yX4_runOne, Cond.selects RX4 yX4_runOne yX4_runOne, Cond.code yX4_runOne cX4_runOne 3 none, Cond.methodLink RX4 96 yX4_compute]
def wsL_law_r15 : List Cond := [Cond.instanceMethod yX4_compute, Cond.selects RX4 yX4_compute yX4_compute, Cond.code yX4_compute cX4_compute 6 (some .int), Cond.methodLink RX4 89 yX4_operandValue, Cond.instanceMethod yX4_operandValue, Cond.selects RX4 yX4_operandValue yX4_operandValue, Cond.code yX4_operandValue cX4_operandValue 3 (some .int), Cond.methodLink RX4 92 yX4_exact, Cond.instanceMethod yX4_exact, Cond.selects RX4 yX4_exact yX4_exact, Cond.code yX4_exact cX4_exact 4 (some .int), Cond.methodLink RX4 99 yX4_versionOf, Cond.instanceMethod yX4_versionOf, Cond.selects RX4 yX4_versionOf yX4_versionOf, Cond.code yX4_versionOf cX4_versionOf 2 (some .int), Cond.methodLink RL 18 yX3_editCell, Cond.instanceMethod yX3_editCell, Cond.selects RX3 yX3_editCell yX3_editCell, Cond.code yX3_editCell cX3_editCell 8 (some .int), Cond.fieldLink RX3 67 "ReactiveNotebook$Cell" "variable" "I", Cond.methodLink RX3 59 yX3_isCell, Cond.instanceMethod yX3_isCell, Cond.selects RX3 yX3_isCell yX3_isCell, Cond.code yX3_isCell cX3_isCell 2 (some .boolean)]
def wsL_law_r16 : List Cond := [Cond.methodLink RX3 72 yX0_define, Cond.methodLink RL 22 yX4_editCell, Cond.instanceMethod yX4_editCell, Cond.selects RX4 yX4_editCell yX4_editCell, Cond.code yX4_editCell cX4_editCell 7 (some .int), Cond.methodLink RX4 115 yX4_isCell, Cond.instanceMethod yX4_isCell, Cond.selects RX4 yX4_isCell yX4_isCell, Cond.code yX4_isCell cX4_isCell 2 (some .boolean), Cond.methodLink RL 23 yX3_deleteCell, Cond.instanceMethod yX3_deleteCell, Cond.selects RX3 yX3_deleteCell yX3_deleteCell, Cond.code yX3_deleteCell cX3_deleteCell 2 (some .int), Cond.methodLink RX3 75 yX2_remove, Cond.instanceMethod yX2_remove, Cond.selects RX2 yX2_remove yX2_remove, Cond.code yX2_remove cX2_remove 2 none, Cond.methodLink RX2 49 yX2_move, Cond.instanceMethod yX2_move, Cond.selects RX2 yX2_move yX2_move, Cond.code yX2_move cX2_move 5 none, Cond.methodLink RL 27 yX4_deleteCell, Cond.instanceMethod yX4_deleteCell, Cond.selects RX4 yX4_deleteCell yX4_deleteCell]
def wsL_law_r17 : List Cond := [Cond.code yX4_deleteCell cX4_deleteCell 3 (some .int), Cond.methodLink RX4 132 yX4_copyCell, Cond.instanceMethod yX4_copyCell, Cond.selects RX4 yX4_copyCell yX4_copyCell, Cond.code yX4_copyCell cX4_copyCell 4 none, Cond.methodLink RL 28 yX3_moveCell, Cond.instanceMethod yX3_moveCell, Cond.selects RX3 yX3_moveCell yX3_moveCell, Cond.code yX3_moveCell cX3_moveCell 3 (some .int), Cond.methodLink RX3 83 Lib.Math.abs.name, Cond.static Lib.Math.abs.name, Cond.code Lib.Math.abs.name Lib.Math.abs.code 1 (some .int), Cond.methodLink RX3 79 yX2_move, Cond.methodLink RL 32 yX4_moveCell, Cond.instanceMethod yX4_moveCell, Cond.selects RX4 yX4_moveCell yX4_moveCell, Cond.code yX4_moveCell cX4_moveCell 6 (some .int), Cond.methodLink RL 33 yX3_setEager, Cond.instanceMethod yX3_setEager, Cond.selects RX3 yX3_setEager yX3_setEager, Cond.code yX3_setEager cX3_setEager 3 (some .int), Cond.methodLink RL 36 yX4_setEager, Cond.instanceMethod yX4_setEager, Cond.selects RX4 yX4_setEager yX4_setEager]
def wsL_law_r18 : List Cond := [Cond.code yX4_setEager cX4_setEager 3 (some .int), Cond.methodLink RL 37 yX3_runStale, Cond.instanceMethod yX3_runStale, Cond.selects RX3 yX3_runStale yX3_runStale, Cond.code yX3_runStale cX3_runStale 1 (some .int), Cond.methodLink RL 41 yX4_runStale, Cond.instanceMethod yX4_runStale, Cond.selects RX4 yX4_runStale yX4_runStale, Cond.code yX4_runStale cX4_runStale 1 (some .int), Cond.methodLink RL 42 yX3_runCell, Cond.instanceMethod yX3_runCell, Cond.selects RX3 yX3_runCell yX3_runCell, Cond.code yX3_runCell cX3_runCell 2 (some .int), Cond.fieldLink RX3 100 "ReactiveNotebook$Graph" "staticErrors" "[I", Cond.fieldLink RX3 103 "ReactiveNotebook$Graph" "allDependencies" "[I", Cond.methodLink RL 45 yX4_runCell, Cond.instanceMethod yX4_runCell, Cond.selects RX4 yX4_runCell yX4_runCell, Cond.code yX4_runCell cX4_runCell 2 (some .int), Cond.methodLink RL 46 yX3_lastRunCount, Cond.instanceMethod yX3_lastRunCount, Cond.selects RX3 yX3_lastRunCount yX3_lastRunCount, Cond.code yX3_lastRunCount cX3_lastRunCount 1 (some .int), Cond.methodLink RL 49 yX4_lastRunCount]
def wsL_law_r19 : List Cond := [Cond.instanceMethod yX4_lastRunCount, Cond.selects RX4 yX4_lastRunCount yX4_lastRunCount, Cond.code yX4_lastRunCount cX4_lastRunCount 1 (some .int), Cond.methodLink RL 50 yX3_lastRun, Cond.instanceMethod yX3_lastRun, Cond.selects RX3 yX3_lastRun yX3_lastRun, Cond.code yX3_lastRun cX3_lastRun 2 (some .int), Cond.fieldLink RX3 106 "ReactiveNotebook$State" "lastRunCells" "[I", Cond.methodLink RL 53 yX4_lastRun, Cond.instanceMethod yX4_lastRun, Cond.selects RX4 yX4_lastRun yX4_lastRun, Cond.code yX4_lastRun cX4_lastRun 2 (some .int), Cond.methodLink RL 54 yX3_cellCount, Cond.instanceMethod yX3_cellCount, Cond.selects RX3 yX3_cellCount yX3_cellCount, Cond.code yX3_cellCount cX3_cellCount 1 (some .int), Cond.methodLink RL 57 yX4_cellCount, Cond.instanceMethod yX4_cellCount, Cond.selects RX4 yX4_cellCount yX4_cellCount, Cond.code yX4_cellCount cX4_cellCount 1 (some .int), Cond.methodLink RL 58 yX3_variable, Cond.instanceMethod yX3_variable, Cond.selects RX3 yX3_variable yX3_variable, Cond.code yX3_variable cX3_variable 2 (some .int)]
def wsL_law_r20 : List Cond := [Cond.methodLink RL 61 yX4_variable, Cond.instanceMethod yX4_variable, Cond.selects RX4 yX4_variable yX4_variable, Cond.code yX4_variable cX4_variable 2 (some .int), Cond.methodLink RX4 136 yX4_ofCell, Cond.instanceMethod yX4_ofCell, Cond.selects RX4 yX4_ofCell yX4_ofCell, Cond.code yX4_ofCell cX4_ofCell 3 (some .int), Cond.methodLink RL 62 yX3_status, Cond.instanceMethod yX3_status, Cond.selects RX3 yX3_status yX3_status, Cond.code yX3_status cX3_status 2 (some .int), Cond.methodLink RX3 109 yX3_statusOf, Cond.instanceMethod yX3_statusOf, Cond.selects RX3 yX3_statusOf yX3_statusOf, Cond.code yX3_statusOf cX3_statusOf 3 (some .int), Cond.methodLink RL 65 yX4_status, Cond.instanceMethod yX4_status, Cond.selects RX4 yX4_status yX4_status, Cond.code yX4_status cX4_status 2 (some .int), Cond.methodLink RX4 139 yX4_statusOf, Cond.instanceMethod yX4_statusOf, Cond.selects RX4 yX4_statusOf yX4_statusOf, Cond.code yX4_statusOf cX4_statusOf 2 (some .int)]
def wsL_law_r21 : List Cond := [Cond.methodLink RL 66 yX3_value, Cond.instanceMethod yX3_value, Cond.selects RX3 yX3_value yX3_value, Cond.code yX3_value cX3_value 2 (some .int), Cond.methodLink RX3 112 yX3_freshValueOf, Cond.instanceMethod yX3_freshValueOf, Cond.selects RX3 yX3_freshValueOf yX3_freshValueOf, Cond.code yX3_freshValueOf cX3_freshValueOf 2 (some .int), Cond.methodLink RL 69 yX4_value, Cond.instanceMethod yX4_value, Cond.selects RX4 yX4_value yX4_value, Cond.code yX4_value cX4_value 2 (some .int), Cond.methodLink RX4 142 yX4_valueAt, Cond.instanceMethod yX4_valueAt, Cond.selects RX4 yX4_valueAt yX4_valueAt, Cond.code yX4_valueAt cX4_valueAt 2 (some .int), Cond.methodLink RL 70 yX3_valueOf, Cond.instanceMethod yX3_valueOf, Cond.selects RX3 yX3_valueOf yX3_valueOf, Cond.code yX3_valueOf cX3_valueOf 3 (some .int), Cond.fieldLink RX3 118 "ReactiveNotebook$Graph" "soleDefiners" "[I", Cond.methodLink RL 73 yX4_valueOf, Cond.instanceMethod yX4_valueOf, Cond.selects RX4 yX4_valueOf yX4_valueOf]
def wsL_law_r22 : List Cond := [Cond.code yX4_valueOf cX4_valueOf 3 (some .int), Cond.methodLink RL 74 yX3_version, Cond.instanceMethod yX3_version, Cond.selects RX3 yX3_version yX3_version, Cond.code yX3_version cX3_version 2 (some .int), Cond.methodLink RL 77 yX4_version, Cond.instanceMethod yX4_version, Cond.selects RX4 yX4_version yX4_version, Cond.code yX4_version cX4_version 2 (some .int), Cond.methodLink RL 78 yX3_runs, Cond.instanceMethod yX3_runs, Cond.selects RX3 yX3_runs yX3_runs, Cond.code yX3_runs cX3_runs 2 (some .int), Cond.methodLink RL 81 yX4_runs, Cond.instanceMethod yX4_runs, Cond.selects RX4 yX4_runs yX4_runs, Cond.code yX4_runs cX4_runs 2 (some .int), Cond.methodLink RL 82 yX3_totalRuns, Cond.instanceMethod yX3_totalRuns, Cond.selects RX3 yX3_totalRuns yX3_totalRuns, Cond.code yX3_totalRuns cX3_totalRuns 1 (some .int), Cond.fieldLink RX3 127 "ReactiveNotebook$State" "totalRuns" "I", Cond.methodLink RL 85 yX4_totalRuns, Cond.instanceMethod yX4_totalRuns]
def wsL_law_r23 : List Cond := [Cond.selects RX4 yX4_totalRuns yX4_totalRuns, Cond.code yX4_totalRuns cX4_totalRuns 1 (some .int), Cond.methodLink RL 86 yX3_dependencies, Cond.instanceMethod yX3_dependencies, Cond.selects RX3 yX3_dependencies yX3_dependencies, Cond.code yX3_dependencies cX3_dependencies 2 (some .int), Cond.methodLink RL 89 yX4_dependencies, Cond.instanceMethod yX4_dependencies, Cond.selects RX4 yX4_dependencies yX4_dependencies, Cond.code yX4_dependencies cX4_dependencies 2 (some .int), Cond.methodLink RL 90 yX3_dependents, Cond.instanceMethod yX3_dependents, Cond.selects RX3 yX3_dependents yX3_dependents, Cond.code yX3_dependents cX3_dependents 2 (some .int), Cond.methodLink RX3 133 yX3_dependentsOf, Cond.instanceMethod yX3_dependentsOf, Cond.selects RX3 yX3_dependentsOf yX3_dependentsOf, Cond.code yX3_dependentsOf cX3_dependentsOf 4 (some .int), Cond.methodLink RL 93 yX4_dependents, Cond.instanceMethod yX4_dependents, Cond.selects RX4 yX4_dependents yX4_dependents, Cond.code yX4_dependents cX4_dependents 2 (some .int), Cond.methodLink RX4 145 yX4_dependentsOf, Cond.instanceMethod yX4_dependentsOf]
def wsL_law_r24 : List Cond := [Cond.selects RX4 yX4_dependentsOf yX4_dependentsOf, Cond.code yX4_dependentsOf cX4_dependentsOf 4 (some .int), Cond.methodLink RL 94 yX3_definers, Cond.instanceMethod yX3_definers, Cond.selects RX3 yX3_definers yX3_definers, Cond.code yX3_definers cX3_definers 2 (some .int), Cond.fieldLink RX3 136 "ReactiveNotebook$Graph" "definers" "[I", Cond.methodLink RL 97 yX4_definers, Cond.instanceMethod yX4_definers, Cond.selects RX4 yX4_definers yX4_definers, Cond.code yX4_definers cX4_definers 2 (some .int), Cond.methodLink RL 98 yX3_runnableCount, Cond.instanceMethod yX3_runnableCount, Cond.selects RX3 yX3_runnableCount yX3_runnableCount, Cond.code yX3_runnableCount cX3_runnableCount 1 (some .int), Cond.methodLink RL 101 yX4_runnableCount, Cond.instanceMethod yX4_runnableCount, Cond.selects RX4 yX4_runnableCount yX4_runnableCount, Cond.code yX4_runnableCount cX4_runnableCount 1 (some .int), Cond.methodLink RL 102 yX3_runOrder, Cond.instanceMethod yX3_runOrder, Cond.selects RX3 yX3_runOrder yX3_runOrder, Cond.code yX3_runOrder cX3_runOrder 2 (some .int), Cond.methodLink RL 105 yX4_runOrder]
def wsL_law_r25 : List Cond := [Cond.instanceMethod yX4_runOrder, Cond.selects RX4 yX4_runOrder yX4_runOrder, Cond.code yX4_runOrder cX4_runOrder 2 (some .int), Cond.methodLink RL 106 yX3_staleCount, Cond.instanceMethod yX3_staleCount, Cond.selects RX3 yX3_staleCount yX3_staleCount, Cond.code yX3_staleCount cX3_staleCount 1 (some .int), Cond.methodLink RX3 145 yJ6_bitCount_0f7a4, Cond.static yJ6_bitCount_0f7a4, Cond.initialized RJ6, Cond.code yJ6_bitCount_0f7a4 cJ6_bitCount_0f7a4 1 (some .int), Cond.constant RJ6 265 (1431655765), Cond.constant RJ6 266 (858993459), Cond.constant RJ6 267 (252645135), Cond.methodLink RL 109 yX4_staleCount, Cond.instanceMethod yX4_staleCount, Cond.selects RX4 yX4_staleCount yX4_staleCount, Cond.code yX4_staleCount cX4_staleCount 3 (some .int), Cond.methodLink RL 110 yX3_undo, Cond.instanceMethod yX3_undo, Cond.selects RX3 yX3_undo yX3_undo, Cond.code yX3_undo cX3_undo 1 (some .int), Cond.methodLink RL 113 yX4_undo, Cond.instanceMethod yX4_undo]
def wsL_law_r26 : List Cond := [Cond.selects RX4 yX4_undo yX4_undo, Cond.code yX4_undo cX4_undo 2 (some .int), Cond.methodLink RL 114 yX3_errorCount, Cond.instanceMethod yX3_errorCount, Cond.selects RX3 yX3_errorCount yX3_errorCount, Cond.code yX3_errorCount cX3_errorCount 2 (some .int), Cond.methodLink RL 117 yX4_errorCount, Cond.instanceMethod yX4_errorCount, Cond.selects RX4 yX4_errorCount yX4_errorCount, Cond.code yX4_errorCount cX4_errorCount 2 (some .int), Cond.methodLink RL 118 yX3_digest, Cond.instanceMethod yX3_digest, Cond.selects RX3 yX3_digest yX3_digest, Cond.code yX3_digest cX3_digest 4 (some .long), Cond.constantLong RX3 157 (11872), Cond.methodLink RX3 159 yX3_mix, Cond.static yX3_mix, Cond.code yX3_mix cX3_mix 4 (some .long), Cond.constantLong RX3 176 (31), Cond.methodLink RX3 163 yX3_mixCell, Cond.instanceMethod yX3_mixCell, Cond.selects RX3 yX3_mixCell yX3_mixCell, Cond.code yX3_mixCell cX3_mixCell 7 (some .long), Cond.methodLink RL 122 yX4_digest]
def wsL_law_r27 : List Cond := [Cond.instanceMethod yX4_digest, Cond.selects RX4 yX4_digest yX4_digest, Cond.code yX4_digest cX4_digest 2 (some .long), Cond.constantLong RX4 158 (11872), Cond.fieldLink RX4 150 "ReactiveNotebookModel" "hash" "J", Cond.methodLink RX4 154 yX4_mix, Cond.instanceMethod yX4_mix, Cond.selects RX4 yX4_mix yX4_mix, Cond.code yX4_mix cX4_mix 3 none, Cond.constantLong RX4 148 (31), Cond.methodLink RX4 160 yX4_mixCell, Cond.instanceMethod yX4_mixCell, Cond.selects RX4 yX4_mixCell yX4_mixCell, Cond.code yX4_mixCell cX4_mixCell 3 none]
def wsL_law : List Cond := (wsL_law_r1 ++ (wsL_law_r2 ++ (wsL_law_r3 ++ (wsL_law_r4 ++ (wsL_law_r5 ++ (wsL_law_r6 ++ (wsL_law_r7 ++ (wsL_law_r8 ++ (wsL_law_r9 ++ (wsL_law_r10 ++ (wsL_law_r11 ++ (wsL_law_r12 ++ (wsL_law_r13 ++ (wsL_law_r14 ++ (wsL_law_r15 ++ (wsL_law_r16 ++ (wsL_law_r17 ++ (wsL_law_r18 ++ (wsL_law_r19 ++ (wsL_law_r20 ++ (wsL_law_r21 ++ (wsL_law_r22 ++ (wsL_law_r23 ++ (wsL_law_r24 ++ (wsL_law_r25 ++ (wsL_law_r26 ++ wsL_law_r27)))))))))))))))))))))))))) ++ wsX30 ++ wsX40 ++ wsX20 ++ wsX10 ++ wsX00 ++ ([] : List Cond)
set_option maxRecDepth 20000 in
theorem giR_1 : GoodIn lw_tbl wsL_law_r1 := goodIn_p wsL_law_r1 [68, 71] (by decide +kernel) (by decide +kernel)
set_option maxRecDepth 20000 in
theorem giR_2 : GoodIn lw_tbl wsL_law_r2 := goodIn_p wsL_law_r2 [76, 83, 163] (by decide +kernel) (by decide +kernel)
set_option maxRecDepth 20000 in
theorem giR_3 : GoodIn lw_tbl wsL_law_r3 := goodIn_p wsL_law_r3 [168, 514] (by decide +kernel) (by decide +kernel)
set_option maxRecDepth 20000 in
theorem giR_4 : GoodIn lw_tbl wsL_law_r4 := goodIn_p wsL_law_r4 [220, 223, 226, 229, 233, 237] (by decide +kernel) (by decide +kernel)
set_option maxRecDepth 20000 in
theorem giR_5 : GoodIn lw_tbl wsL_law_r5 := goodIn_p wsL_law_r5 [241, 245, 249, 253] (by decide +kernel) (by decide +kernel)
set_option maxRecDepth 20000 in
theorem giR_6 : GoodIn lw_tbl wsL_law_r6 := goodIn_p wsL_law_r6 [257, 261, 265, 269, 274] (by decide +kernel) (by decide +kernel)
set_option maxRecDepth 20000 in
theorem giR_7 : GoodIn lw_tbl wsL_law_r7 := goodIn_p wsL_law_r7 [278, 282, 285, 289, 292, 296] (by decide +kernel) (by decide +kernel)
set_option maxRecDepth 20000 in
theorem giR_8 : GoodIn lw_tbl wsL_law_r8 := goodIn_p wsL_law_r8 [300, 304, 308, 312, 316, 320] (by decide +kernel) (by decide +kernel)
set_option maxRecDepth 20000 in
theorem giR_9 : GoodIn lw_tbl wsL_law_r9 := goodIn_p wsL_law_r9 [324, 328, 332, 336] (by decide +kernel) (by decide +kernel)
set_option maxRecDepth 20000 in
theorem giR_10 : GoodIn lw_tbl wsL_law_r10 := goodIn_p wsL_law_r10 [342, 346, 349, 358, 361] (by decide +kernel) (by decide +kernel)
set_option maxRecDepth 20000 in
theorem giR_11 : GoodIn lw_tbl wsL_law_r11 := goodIn_p wsL_law_r11 [352, 355, 365, 662, 665, 634, 650] (by decide +kernel) (by decide +kernel)
set_option maxRecDepth 20000 in
theorem giR_12 : GoodIn lw_tbl wsL_law_r12 := goodIn_p wsL_law_r12 [561, 669, 580, 673, 565, 569] (by decide +kernel) (by decide +kernel)
set_option maxRecDepth 20000 in
theorem giR_13 : GoodIn lw_tbl wsL_law_r13 := goodIn_p wsL_law_r13 [573, 577, 584, 588, 591, 595] (by decide +kernel) (by decide +kernel)
set_option maxRecDepth 20000 in
theorem giR_14 : GoodIn lw_tbl wsL_law_r14 := goodIn_p wsL_law_r14 [599, 603, 607, 611, 615, 619] (by decide +kernel) (by decide +kernel)
set_option maxRecDepth 20000 in
theorem giR_15 : GoodIn lw_tbl wsL_law_r15 := goodIn_p wsL_law_r15 [623, 627, 631, 638, 369, 373] (by decide +kernel) (by decide +kernel)
set_option maxRecDepth 20000 in
theorem giR_16 : GoodIn lw_tbl wsL_law_r16 := goodIn_p wsL_law_r16 [677, 646, 378, 382, 386] (by decide +kernel) (by decide +kernel)
set_option maxRecDepth 20000 in
theorem giR_17 : GoodIn lw_tbl wsL_law_r17 := goodIn_p wsL_law_r17 [681, 685, 390, 394, 689, 398] (by decide +kernel) (by decide +kernel)
set_option maxRecDepth 20000 in
theorem giR_18 : GoodIn lw_tbl wsL_law_r18 := goodIn_p wsL_law_r18 [693, 402, 557, 406, 642, 410] (by decide +kernel) (by decide +kernel)
set_option maxRecDepth 20000 in
theorem giR_19 : GoodIn lw_tbl wsL_law_r19 := goodIn_p wsL_law_r19 [654, 414, 658, 418, 697, 422] (by decide +kernel) (by decide +kernel)
set_option maxRecDepth 20000 in
theorem giR_20 : GoodIn lw_tbl wsL_law_r20 := goodIn_p wsL_law_r20 [701, 705, 426, 430, 709, 713] (by decide +kernel) (by decide +kernel)
set_option maxRecDepth 20000 in
theorem giR_21 : GoodIn lw_tbl wsL_law_r21 := goodIn_p wsL_law_r21 [434, 438, 717, 721, 442] (by decide +kernel) (by decide +kernel)
set_option maxRecDepth 20000 in
theorem giR_22 : GoodIn lw_tbl wsL_law_r22 := goodIn_p wsL_law_r22 [725, 446, 729, 450, 733, 454] (by decide +kernel) (by decide +kernel)
set_option maxRecDepth 20000 in
theorem giR_23 : GoodIn lw_tbl wsL_law_r23 := goodIn_p wsL_law_r23 [737, 458, 741, 462, 466, 745] (by decide +kernel) (by decide +kernel)
set_option maxRecDepth 20000 in
theorem giR_24 : GoodIn lw_tbl wsL_law_r24 := goodIn_p wsL_law_r24 [749, 470, 753, 474, 757, 478] (by decide +kernel) (by decide +kernel)
set_option maxRecDepth 20000 in
theorem giR_25 : GoodIn lw_tbl wsL_law_r25 := goodIn_p wsL_law_r25 [761, 482, 485, 765, 492] (by decide +kernel) (by decide +kernel)
set_option maxRecDepth 20000 in
theorem giR_26 : GoodIn lw_tbl wsL_law_r26 := goodIn_p wsL_law_r26 [769, 496, 773, 500, 504, 509] (by decide +kernel) (by decide +kernel)
set_option maxRecDepth 20000 in
theorem giR_27 : GoodIn lw_tbl wsL_law_r27 := goodIn_p wsL_law_r27 [777, 782, 787] (by decide +kernel) (by decide +kernel)
set_option maxRecDepth 20000 in
theorem giC_wsX30 : GoodIn lw_tbl wsX30 := goodIn_p wsX30 [] (by decide +kernel) (by decide +kernel)
set_option maxRecDepth 20000 in
theorem giC_wsX40 : GoodIn lw_tbl wsX40 := goodIn_p wsX40 [] (by decide +kernel) (by decide +kernel)
set_option maxRecDepth 20000 in
theorem giC_wsX20 : GoodIn lw_tbl wsX20 := goodIn_p wsX20 [] (by decide +kernel) (by decide +kernel)
set_option maxRecDepth 20000 in
theorem giC_wsX10 : GoodIn lw_tbl wsX10 := goodIn_p wsX10 [] (by decide +kernel) (by decide +kernel)
set_option maxRecDepth 20000 in
theorem giC_wsX00 : GoodIn lw_tbl wsX00 := goodIn_p wsX00 [] (by decide +kernel) (by decide +kernel)
theorem wsL_law_gi : GoodIn lw_tbl wsL_law := goodIn_app (goodIn_app (goodIn_app (goodIn_app (goodIn_app (goodIn_app (goodIn_app giR_1 (goodIn_app giR_2 (goodIn_app giR_3 (goodIn_app giR_4 (goodIn_app giR_5 (goodIn_app giR_6 (goodIn_app giR_7 (goodIn_app giR_8 (goodIn_app giR_9 (goodIn_app giR_10 (goodIn_app giR_11 (goodIn_app giR_12 (goodIn_app giR_13 (goodIn_app giR_14 (goodIn_app giR_15 (goodIn_app giR_16 (goodIn_app giR_17 (goodIn_app giR_18 (goodIn_app giR_19 (goodIn_app giR_20 (goodIn_app giR_21 (goodIn_app giR_22 (goodIn_app giR_23 (goodIn_app giR_24 (goodIn_app giR_25 (goodIn_app giR_26 (giR_27))))))))))))))))))))))))))) giC_wsX30) giC_wsX40) giC_wsX20) giC_wsX10) giC_wsX00) (fun _ h => absurd h List.not_mem_nil)
theorem wsL_law_in : ∀ w ∈ wsL_law, w ∈ lw_tbl := fun w h => (wsL_law_gi w h).1
theorem inlX0 : ∀ w ∈ wsX00, w ∈ wsL_law := fun _ h => List.mem_append_left _ (List.mem_append_right _ h)
theorem inX0 : ∀ w ∈ wsX00, w ∈ lw_tbl := fun w h => wsL_law_in w (inlX0 w h)
theorem inlX1 : ∀ w ∈ wsX10, w ∈ wsL_law := fun _ h => List.mem_append_left _ (List.mem_append_left _ (List.mem_append_right _ h))
theorem inX1 : ∀ w ∈ wsX10, w ∈ lw_tbl := fun w h => wsL_law_in w (inlX1 w h)
theorem inlX2 : ∀ w ∈ wsX20, w ∈ wsL_law := fun _ h => List.mem_append_left _ (List.mem_append_left _ (List.mem_append_left _ (List.mem_append_right _ h)))
theorem inX2 : ∀ w ∈ wsX20, w ∈ lw_tbl := fun w h => wsL_law_in w (inlX2 w h)
theorem inlX3 : ∀ w ∈ wsX30, w ∈ wsL_law := fun _ h => List.mem_append_left _ (List.mem_append_left _ (List.mem_append_left _ (List.mem_append_left _ (List.mem_append_left _ (List.mem_append_right _ h)))))
theorem inX3 : ∀ w ∈ wsX30, w ∈ lw_tbl := fun w h => wsL_law_in w (inlX3 w h)
theorem inlX4 : ∀ w ∈ wsX40, w ∈ wsL_law := fun _ h => List.mem_append_left _ (List.mem_append_left _ (List.mem_append_left _ (List.mem_append_left _ (List.mem_append_right _ h))))
theorem inX4 : ∀ w ∈ wsX40, w ∈ lw_tbl := fun w h => wsL_law_in w (inlX4 w h)
theorem inJ6 : ∀ w ∈ wsJ60, w ∈ lw_tbl := by decide +kernel
theorem inJ9 : ∀ w ∈ wsJ90, w ∈ lw_tbl := by decide +kernel
theorem inR_1 : ∀ w ∈ wsL_law_r1, w ∈ wsL_law := fun w h => List.mem_append_left _ (List.mem_append_left _ (List.mem_append_left _ (List.mem_append_left _ (List.mem_append_left _ (List.mem_append_left _ (List.mem_append_left _ (h)))))))
theorem inR_2 : ∀ w ∈ wsL_law_r2, w ∈ wsL_law := fun w h => List.mem_append_left _ (List.mem_append_left _ (List.mem_append_left _ (List.mem_append_left _ (List.mem_append_left _ (List.mem_append_left _ (List.mem_append_right _ (List.mem_append_left _ (h))))))))
theorem inR_3 : ∀ w ∈ wsL_law_r3, w ∈ wsL_law := fun w h => List.mem_append_left _ (List.mem_append_left _ (List.mem_append_left _ (List.mem_append_left _ (List.mem_append_left _ (List.mem_append_left _ (List.mem_append_right _ (List.mem_append_right _ (List.mem_append_left _ (h)))))))))
theorem inR_4 : ∀ w ∈ wsL_law_r4, w ∈ wsL_law := fun w h => List.mem_append_left _ (List.mem_append_left _ (List.mem_append_left _ (List.mem_append_left _ (List.mem_append_left _ (List.mem_append_left _ (List.mem_append_right _ (List.mem_append_right _ (List.mem_append_right _ (List.mem_append_left _ (h))))))))))
theorem inR_5 : ∀ w ∈ wsL_law_r5, w ∈ wsL_law := fun w h => List.mem_append_left _ (List.mem_append_left _ (List.mem_append_left _ (List.mem_append_left _ (List.mem_append_left _ (List.mem_append_left _ (List.mem_append_right _ (List.mem_append_right _ (List.mem_append_right _ (List.mem_append_right _ (List.mem_append_left _ (h)))))))))))
theorem inR_6 : ∀ w ∈ wsL_law_r6, w ∈ wsL_law := fun w h => List.mem_append_left _ (List.mem_append_left _ (List.mem_append_left _ (List.mem_append_left _ (List.mem_append_left _ (List.mem_append_left _ (List.mem_append_right _ (List.mem_append_right _ (List.mem_append_right _ (List.mem_append_right _ (List.mem_append_right _ (List.mem_append_left _ (h))))))))))))
theorem inR_7 : ∀ w ∈ wsL_law_r7, w ∈ wsL_law := fun w h => List.mem_append_left _ (List.mem_append_left _ (List.mem_append_left _ (List.mem_append_left _ (List.mem_append_left _ (List.mem_append_left _ (List.mem_append_right _ (List.mem_append_right _ (List.mem_append_right _ (List.mem_append_right _ (List.mem_append_right _ (List.mem_append_right _ (List.mem_append_left _ (h)))))))))))))
theorem inR_8 : ∀ w ∈ wsL_law_r8, w ∈ wsL_law := fun w h => List.mem_append_left _ (List.mem_append_left _ (List.mem_append_left _ (List.mem_append_left _ (List.mem_append_left _ (List.mem_append_left _ (List.mem_append_right _ (List.mem_append_right _ (List.mem_append_right _ (List.mem_append_right _ (List.mem_append_right _ (List.mem_append_right _ (List.mem_append_right _ (List.mem_append_left _ (h))))))))))))))
theorem inR_9 : ∀ w ∈ wsL_law_r9, w ∈ wsL_law := fun w h => List.mem_append_left _ (List.mem_append_left _ (List.mem_append_left _ (List.mem_append_left _ (List.mem_append_left _ (List.mem_append_left _ (List.mem_append_right _ (List.mem_append_right _ (List.mem_append_right _ (List.mem_append_right _ (List.mem_append_right _ (List.mem_append_right _ (List.mem_append_right _ (List.mem_append_right _ (List.mem_append_left _ (h)))))))))))))))
theorem inR_10 : ∀ w ∈ wsL_law_r10, w ∈ wsL_law := fun w h => List.mem_append_left _ (List.mem_append_left _ (List.mem_append_left _ (List.mem_append_left _ (List.mem_append_left _ (List.mem_append_left _ (List.mem_append_right _ (List.mem_append_right _ (List.mem_append_right _ (List.mem_append_right _ (List.mem_append_right _ (List.mem_append_right _ (List.mem_append_right _ (List.mem_append_right _ (List.mem_append_right _ (List.mem_append_left _ (h))))))))))))))))
theorem inR_11 : ∀ w ∈ wsL_law_r11, w ∈ wsL_law := fun w h => List.mem_append_left _ (List.mem_append_left _ (List.mem_append_left _ (List.mem_append_left _ (List.mem_append_left _ (List.mem_append_left _ (List.mem_append_right _ (List.mem_append_right _ (List.mem_append_right _ (List.mem_append_right _ (List.mem_append_right _ (List.mem_append_right _ (List.mem_append_right _ (List.mem_append_right _ (List.mem_append_right _ (List.mem_append_right _ (List.mem_append_left _ (h)))))))))))))))))
theorem inR_12 : ∀ w ∈ wsL_law_r12, w ∈ wsL_law := fun w h => List.mem_append_left _ (List.mem_append_left _ (List.mem_append_left _ (List.mem_append_left _ (List.mem_append_left _ (List.mem_append_left _ (List.mem_append_right _ (List.mem_append_right _ (List.mem_append_right _ (List.mem_append_right _ (List.mem_append_right _ (List.mem_append_right _ (List.mem_append_right _ (List.mem_append_right _ (List.mem_append_right _ (List.mem_append_right _ (List.mem_append_right _ (List.mem_append_left _ (h))))))))))))))))))
theorem inR_13 : ∀ w ∈ wsL_law_r13, w ∈ wsL_law := fun w h => List.mem_append_left _ (List.mem_append_left _ (List.mem_append_left _ (List.mem_append_left _ (List.mem_append_left _ (List.mem_append_left _ (List.mem_append_right _ (List.mem_append_right _ (List.mem_append_right _ (List.mem_append_right _ (List.mem_append_right _ (List.mem_append_right _ (List.mem_append_right _ (List.mem_append_right _ (List.mem_append_right _ (List.mem_append_right _ (List.mem_append_right _ (List.mem_append_right _ (List.mem_append_left _ (h)))))))))))))))))))
theorem inR_14 : ∀ w ∈ wsL_law_r14, w ∈ wsL_law := fun w h => List.mem_append_left _ (List.mem_append_left _ (List.mem_append_left _ (List.mem_append_left _ (List.mem_append_left _ (List.mem_append_left _ (List.mem_append_right _ (List.mem_append_right _ (List.mem_append_right _ (List.mem_append_right _ (List.mem_append_right _ (List.mem_append_right _ (List.mem_append_right _ (List.mem_append_right _ (List.mem_append_right _ (List.mem_append_right _ (List.mem_append_right _ (List.mem_append_right _ (List.mem_append_right _ (List.mem_append_left _ (h))))))))))))))))))))
theorem inR_15 : ∀ w ∈ wsL_law_r15, w ∈ wsL_law := fun w h => List.mem_append_left _ (List.mem_append_left _ (List.mem_append_left _ (List.mem_append_left _ (List.mem_append_left _ (List.mem_append_left _ (List.mem_append_right _ (List.mem_append_right _ (List.mem_append_right _ (List.mem_append_right _ (List.mem_append_right _ (List.mem_append_right _ (List.mem_append_right _ (List.mem_append_right _ (List.mem_append_right _ (List.mem_append_right _ (List.mem_append_right _ (List.mem_append_right _ (List.mem_append_right _ (List.mem_append_right _ (List.mem_append_left _ (h)))))))))))))))))))))
theorem inR_16 : ∀ w ∈ wsL_law_r16, w ∈ wsL_law := fun w h => List.mem_append_left _ (List.mem_append_left _ (List.mem_append_left _ (List.mem_append_left _ (List.mem_append_left _ (List.mem_append_left _ (List.mem_append_right _ (List.mem_append_right _ (List.mem_append_right _ (List.mem_append_right _ (List.mem_append_right _ (List.mem_append_right _ (List.mem_append_right _ (List.mem_append_right _ (List.mem_append_right _ (List.mem_append_right _ (List.mem_append_right _ (List.mem_append_right _ (List.mem_append_right _ (List.mem_append_right _ (List.mem_append_right _ (List.mem_append_left _ (h))))))))))))))))))))))
theorem inR_17 : ∀ w ∈ wsL_law_r17, w ∈ wsL_law := fun w h => List.mem_append_left _ (List.mem_append_left _ (List.mem_append_left _ (List.mem_append_left _ (List.mem_append_left _ (List.mem_append_left _ (List.mem_append_right _ (List.mem_append_right _ (List.mem_append_right _ (List.mem_append_right _ (List.mem_append_right _ (List.mem_append_right _ (List.mem_append_right _ (List.mem_append_right _ (List.mem_append_right _ (List.mem_append_right _ (List.mem_append_right _ (List.mem_append_right _ (List.mem_append_right _ (List.mem_append_right _ (List.mem_append_right _ (List.mem_append_right _ (List.mem_append_left _ (h)))))))))))))))))))))))
theorem inR_18 : ∀ w ∈ wsL_law_r18, w ∈ wsL_law := fun w h => List.mem_append_left _ (List.mem_append_left _ (List.mem_append_left _ (List.mem_append_left _ (List.mem_append_left _ (List.mem_append_left _ (List.mem_append_right _ (List.mem_append_right _ (List.mem_append_right _ (List.mem_append_right _ (List.mem_append_right _ (List.mem_append_right _ (List.mem_append_right _ (List.mem_append_right _ (List.mem_append_right _ (List.mem_append_right _ (List.mem_append_right _ (List.mem_append_right _ (List.mem_append_right _ (List.mem_append_right _ (List.mem_append_right _ (List.mem_append_right _ (List.mem_append_right _ (List.mem_append_left _ (h))))))))))))))))))))))))
theorem inR_19 : ∀ w ∈ wsL_law_r19, w ∈ wsL_law := fun w h => List.mem_append_left _ (List.mem_append_left _ (List.mem_append_left _ (List.mem_append_left _ (List.mem_append_left _ (List.mem_append_left _ (List.mem_append_right _ (List.mem_append_right _ (List.mem_append_right _ (List.mem_append_right _ (List.mem_append_right _ (List.mem_append_right _ (List.mem_append_right _ (List.mem_append_right _ (List.mem_append_right _ (List.mem_append_right _ (List.mem_append_right _ (List.mem_append_right _ (List.mem_append_right _ (List.mem_append_right _ (List.mem_append_right _ (List.mem_append_right _ (List.mem_append_right _ (List.mem_append_right _ (List.mem_append_left _ (h)))))))))))))))))))))))))
theorem inR_20 : ∀ w ∈ wsL_law_r20, w ∈ wsL_law := fun w h => List.mem_append_left _ (List.mem_append_left _ (List.mem_append_left _ (List.mem_append_left _ (List.mem_append_left _ (List.mem_append_left _ (List.mem_append_right _ (List.mem_append_right _ (List.mem_append_right _ (List.mem_append_right _ (List.mem_append_right _ (List.mem_append_right _ (List.mem_append_right _ (List.mem_append_right _ (List.mem_append_right _ (List.mem_append_right _ (List.mem_append_right _ (List.mem_append_right _ (List.mem_append_right _ (List.mem_append_right _ (List.mem_append_right _ (List.mem_append_right _ (List.mem_append_right _ (List.mem_append_right _ (List.mem_append_right _ (List.mem_append_left _ (h))))))))))))))))))))))))))
theorem inR_21 : ∀ w ∈ wsL_law_r21, w ∈ wsL_law := fun w h => List.mem_append_left _ (List.mem_append_left _ (List.mem_append_left _ (List.mem_append_left _ (List.mem_append_left _ (List.mem_append_left _ (List.mem_append_right _ (List.mem_append_right _ (List.mem_append_right _ (List.mem_append_right _ (List.mem_append_right _ (List.mem_append_right _ (List.mem_append_right _ (List.mem_append_right _ (List.mem_append_right _ (List.mem_append_right _ (List.mem_append_right _ (List.mem_append_right _ (List.mem_append_right _ (List.mem_append_right _ (List.mem_append_right _ (List.mem_append_right _ (List.mem_append_right _ (List.mem_append_right _ (List.mem_append_right _ (List.mem_append_right _ (List.mem_append_left _ (h)))))))))))))))))))))))))))
theorem inR_22 : ∀ w ∈ wsL_law_r22, w ∈ wsL_law := fun w h => List.mem_append_left _ (List.mem_append_left _ (List.mem_append_left _ (List.mem_append_left _ (List.mem_append_left _ (List.mem_append_left _ (List.mem_append_right _ (List.mem_append_right _ (List.mem_append_right _ (List.mem_append_right _ (List.mem_append_right _ (List.mem_append_right _ (List.mem_append_right _ (List.mem_append_right _ (List.mem_append_right _ (List.mem_append_right _ (List.mem_append_right _ (List.mem_append_right _ (List.mem_append_right _ (List.mem_append_right _ (List.mem_append_right _ (List.mem_append_right _ (List.mem_append_right _ (List.mem_append_right _ (List.mem_append_right _ (List.mem_append_right _ (List.mem_append_right _ (List.mem_append_left _ (h))))))))))))))))))))))))))))
theorem inR_23 : ∀ w ∈ wsL_law_r23, w ∈ wsL_law := fun w h => List.mem_append_left _ (List.mem_append_left _ (List.mem_append_left _ (List.mem_append_left _ (List.mem_append_left _ (List.mem_append_left _ (List.mem_append_right _ (List.mem_append_right _ (List.mem_append_right _ (List.mem_append_right _ (List.mem_append_right _ (List.mem_append_right _ (List.mem_append_right _ (List.mem_append_right _ (List.mem_append_right _ (List.mem_append_right _ (List.mem_append_right _ (List.mem_append_right _ (List.mem_append_right _ (List.mem_append_right _ (List.mem_append_right _ (List.mem_append_right _ (List.mem_append_right _ (List.mem_append_right _ (List.mem_append_right _ (List.mem_append_right _ (List.mem_append_right _ (List.mem_append_right _ (List.mem_append_left _ (h)))))))))))))))))))))))))))))
theorem inR_24 : ∀ w ∈ wsL_law_r24, w ∈ wsL_law := fun w h => List.mem_append_left _ (List.mem_append_left _ (List.mem_append_left _ (List.mem_append_left _ (List.mem_append_left _ (List.mem_append_left _ (List.mem_append_right _ (List.mem_append_right _ (List.mem_append_right _ (List.mem_append_right _ (List.mem_append_right _ (List.mem_append_right _ (List.mem_append_right _ (List.mem_append_right _ (List.mem_append_right _ (List.mem_append_right _ (List.mem_append_right _ (List.mem_append_right _ (List.mem_append_right _ (List.mem_append_right _ (List.mem_append_right _ (List.mem_append_right _ (List.mem_append_right _ (List.mem_append_right _ (List.mem_append_right _ (List.mem_append_right _ (List.mem_append_right _ (List.mem_append_right _ (List.mem_append_right _ (List.mem_append_left _ (h))))))))))))))))))))))))))))))
theorem inR_25 : ∀ w ∈ wsL_law_r25, w ∈ wsL_law := fun w h => List.mem_append_left _ (List.mem_append_left _ (List.mem_append_left _ (List.mem_append_left _ (List.mem_append_left _ (List.mem_append_left _ (List.mem_append_right _ (List.mem_append_right _ (List.mem_append_right _ (List.mem_append_right _ (List.mem_append_right _ (List.mem_append_right _ (List.mem_append_right _ (List.mem_append_right _ (List.mem_append_right _ (List.mem_append_right _ (List.mem_append_right _ (List.mem_append_right _ (List.mem_append_right _ (List.mem_append_right _ (List.mem_append_right _ (List.mem_append_right _ (List.mem_append_right _ (List.mem_append_right _ (List.mem_append_right _ (List.mem_append_right _ (List.mem_append_right _ (List.mem_append_right _ (List.mem_append_right _ (List.mem_append_right _ (List.mem_append_left _ (h)))))))))))))))))))))))))))))))
theorem inR_26 : ∀ w ∈ wsL_law_r26, w ∈ wsL_law := fun w h => List.mem_append_left _ (List.mem_append_left _ (List.mem_append_left _ (List.mem_append_left _ (List.mem_append_left _ (List.mem_append_left _ (List.mem_append_right _ (List.mem_append_right _ (List.mem_append_right _ (List.mem_append_right _ (List.mem_append_right _ (List.mem_append_right _ (List.mem_append_right _ (List.mem_append_right _ (List.mem_append_right _ (List.mem_append_right _ (List.mem_append_right _ (List.mem_append_right _ (List.mem_append_right _ (List.mem_append_right _ (List.mem_append_right _ (List.mem_append_right _ (List.mem_append_right _ (List.mem_append_right _ (List.mem_append_right _ (List.mem_append_right _ (List.mem_append_right _ (List.mem_append_right _ (List.mem_append_right _ (List.mem_append_right _ (List.mem_append_right _ (List.mem_append_left _ (h))))))))))))))))))))))))))))))))
theorem inR_27 : ∀ w ∈ wsL_law_r27, w ∈ wsL_law := fun w h => List.mem_append_left _ (List.mem_append_left _ (List.mem_append_left _ (List.mem_append_left _ (List.mem_append_left _ (List.mem_append_left _ (List.mem_append_right _ (List.mem_append_right _ (List.mem_append_right _ (List.mem_append_right _ (List.mem_append_right _ (List.mem_append_right _ (List.mem_append_right _ (List.mem_append_right _ (List.mem_append_right _ (List.mem_append_right _ (List.mem_append_right _ (List.mem_append_right _ (List.mem_append_right _ (List.mem_append_right _ (List.mem_append_right _ (List.mem_append_right _ (List.mem_append_right _ (List.mem_append_right _ (List.mem_append_right _ (List.mem_append_right _ (List.mem_append_right _ (List.mem_append_right _ (List.mem_append_right _ (List.mem_append_right _ (List.mem_append_right _ (List.mem_append_right _ (h))))))))))))))))))))))))))))))))
theorem wl_RL_7 : (Cond.classLink RL 7 RX3) ∈ wsL_law := inR_1 _ (.head _)
theorem wa_RX3 : (Cond.instantiable RX3 6) ∈ wsL_law := inR_1 _ (.tail _ (.head _))
theorem wn_RX3 : (Cond.initialized RX3) ∈ wsL_law := inR_1 _ (.tail _ (.tail _ (.head _)))
theorem wl_RL_10 : (Cond.classLink RL 10 RX4) ∈ wsL_law := inR_1 _ (.tail _ (.tail _ (.tail _ (.head _))))
theorem wa_RX4 : (Cond.instantiable RX4 12) ∈ wsL_law := inR_1 _ (.tail _ (.tail _ (.tail _ (.tail _ (.head _)))))
theorem wn_RX4 : (Cond.initialized RX4) ∈ wsL_law := inR_1 _ (.tail _ (.tail _ (.tail _ (.tail _ (.tail _ (.head _))))))
theorem wm_RL_9 : (Cond.methodLink RL 9 yX3_init) ∈ wsL_law := inR_1 _ (.tail _ (.tail _ (.tail _ (.tail _ (.tail _ (.tail _ (.head _)))))))
theorem wi_yX3_init : (Cond.instanceMethod yX3_init) ∈ wsL_law := inR_1 _ (.tail _ (.tail _ (.tail _ (.tail _ (.tail _ (.tail _ (.tail _ (.head _))))))))
theorem wc_yX3_init : (Cond.code yX3_init cX3_init 2 none) ∈ wsL_law := inR_1 _ (.tail _ (.tail _ (.tail _ (.tail _ (.tail _ (.tail _ (.tail _ (.tail _ (.head _)))))))))
theorem wm_RX3_3 : (Cond.methodLink RX3 3 objectInit) ∈ wsL_law := inR_1 _ (.tail _ (.tail _ (.tail _ (.tail _ (.tail _ (.tail _ (.tail _ (.tail _ (.tail _ (.head _))))))))))
theorem wi_objectInit : (Cond.instanceMethod objectInit) ∈ wsL_law := inR_1 _ (.tail _ (.tail _ (.tail _ (.tail _ (.tail _ (.tail _ (.tail _ (.tail _ (.tail _ (.tail _ (.head _)))))))))))
theorem wc_objectInit : (Cond.code objectInit ⟨#[0xb1]⟩ 1 none) ∈ wsL_law := inR_1 _ (.tail _ (.tail _ (.tail _ (.tail _ (.tail _ (.tail _ (.tail _ (.tail _ (.tail _ (.tail _ (.tail _ (.head _))))))))))))
theorem wl_RX3_9 : (Cond.classLink RX3 9 RX2) ∈ wsL_law := inR_1 _ (.tail _ (.tail _ (.tail _ (.tail _ (.tail _ (.tail _ (.tail _ (.tail _ (.tail _ (.tail _ (.tail _ (.tail _ (.head _)))))))))))))
theorem wa_RX2 : (Cond.instantiable RX2 7) ∈ wsL_law := inR_1 _ (.tail _ (.tail _ (.tail _ (.tail _ (.tail _ (.tail _ (.tail _ (.tail _ (.tail _ (.tail _ (.tail _ (.tail _ (.tail _ (.head _))))))))))))))
theorem wn_RX2 : (Cond.initialized RX2) ∈ wsL_law := inR_1 _ (.tail _ (.tail _ (.tail _ (.tail _ (.tail _ (.tail _ (.tail _ (.tail _ (.tail _ (.tail _ (.tail _ (.tail _ (.tail _ (.tail _ (.head _)))))))))))))))
theorem wf_RX3_12 : (Cond.fieldLink RX3 12 "ReactiveNotebook" "state" "LReactiveNotebook$State;") ∈ wsL_law := inR_1 _ (.tail _ (.tail _ (.tail _ (.tail _ (.tail _ (.tail _ (.tail _ (.tail _ (.tail _ (.tail _ (.tail _ (.tail _ (.tail _ (.tail _ (.tail _ (.head _))))))))))))))))
theorem wf_RX3_16 : (Cond.fieldLink RX3 16 "ReactiveNotebook" "saved" "[LReactiveNotebook$State;") ∈ wsL_law := inR_1 _ (.tail _ (.tail _ (.tail _ (.tail _ (.tail _ (.tail _ (.tail _ (.tail _ (.tail _ (.tail _ (.tail _ (.tail _ (.tail _ (.tail _ (.tail _ (.tail _ (.head _)))))))))))))))))
theorem wf_RX3_20 : (Cond.fieldLink RX3 20 "ReactiveNotebook" "savedCount" "I") ∈ wsL_law := inR_1 _ (.tail _ (.tail _ (.tail _ (.tail _ (.tail _ (.tail _ (.tail _ (.tail _ (.tail _ (.tail _ (.tail _ (.tail _ (.tail _ (.tail _ (.tail _ (.tail _ (.tail _ (.head _))))))))))))))))))
theorem wr__int : (Cond.arrayClass .int) ∈ wsL_law := inR_1 _ (.tail _ (.tail _ (.tail _ (.tail _ (.tail _ (.tail _ (.tail _ (.tail _ (.tail _ (.tail _ (.tail _ (.tail _ (.tail _ (.tail _ (.tail _ (.tail _ (.tail _ (.tail _ (.head _)))))))))))))))))))
theorem wf_RX3_24 : (Cond.fieldLink RX3 24 "ReactiveNotebook" "errorCounts" "[I") ∈ wsL_law := inR_1 _ (.tail _ (.tail _ (.tail _ (.tail _ (.tail _ (.tail _ (.tail _ (.tail _ (.tail _ (.tail _ (.tail _ (.tail _ (.tail _ (.tail _ (.tail _ (.tail _ (.tail _ (.tail _ (.tail _ (.head _))))))))))))))))))))
theorem wl_RX3_28 : (Cond.classLink RX3 28 RX1) ∈ wsL_law := inR_1 _ (.tail _ (.tail _ (.tail _ (.tail _ (.tail _ (.tail _ (.tail _ (.tail _ (.tail _ (.tail _ (.tail _ (.tail _ (.tail _ (.tail _ (.tail _ (.tail _ (.tail _ (.tail _ (.tail _ (.tail _ (.head _)))))))))))))))))))))
theorem wa_RX1 : (Cond.instantiable RX1 7) ∈ wsL_law := inR_1 _ (.tail _ (.tail _ (.tail _ (.tail _ (.tail _ (.tail _ (.tail _ (.tail _ (.tail _ (.tail _ (.tail _ (.tail _ (.tail _ (.tail _ (.tail _ (.tail _ (.tail _ (.tail _ (.tail _ (.tail _ (.tail _ (.head _))))))))))))))))))))))
theorem wn_RX1 : (Cond.initialized RX1) ∈ wsL_law := inR_1 _ (.tail _ (.tail _ (.tail _ (.tail _ (.tail _ (.tail _ (.tail _ (.tail _ (.tail _ (.tail _ (.tail _ (.tail _ (.tail _ (.tail _ (.tail _ (.tail _ (.tail _ (.tail _ (.tail _ (.tail _ (.tail _ (.tail _ (.head _)))))))))))))))))))))))
theorem wf_RX3_31 : (Cond.fieldLink RX3 31 "ReactiveNotebook" "graph" "LReactiveNotebook$Graph;") ∈ wsL_law := inR_1 _ (.tail _ (.tail _ (.tail _ (.tail _ (.tail _ (.tail _ (.tail _ (.tail _ (.tail _ (.tail _ (.tail _ (.tail _ (.tail _ (.tail _ (.tail _ (.tail _ (.tail _ (.tail _ (.tail _ (.tail _ (.tail _ (.tail _ (.tail _ (.head _))))))))))))))))))))))))
theorem wf_RX3_35 : (Cond.fieldLink RX3 35 "ReactiveNotebook" "freshCells" "I") ∈ wsL_law := inR_2 _ (.head _)
theorem wm_RX3_11 : (Cond.methodLink RX3 11 yX2_init) ∈ wsL_law := inR_2 _ (.tail _ (.head _))
theorem wi_yX2_init : (Cond.instanceMethod yX2_init) ∈ wsL_law := inR_2 _ (.tail _ (.tail _ (.head _)))
theorem wc_yX2_init : (Cond.code yX2_init cX2_init 2 none) ∈ wsL_law := inR_2 _ (.tail _ (.tail _ (.tail _ (.head _))))
theorem wm_RX2_3 : (Cond.methodLink RX2 3 objectInit) ∈ wsL_law := inR_2 _ (.tail _ (.tail _ (.tail _ (.tail _ (.head _)))))
theorem wl_RX2_9 : (Cond.classLink RX2 9 RX0) ∈ wsL_law := inR_2 _ (.tail _ (.tail _ (.tail _ (.tail _ (.tail _ (.head _))))))
theorem wf_RX2_11 : (Cond.fieldLink RX2 11 "ReactiveNotebook$State" "cells" "[LReactiveNotebook$Cell;") ∈ wsL_law := inR_2 _ (.tail _ (.tail _ (.tail _ (.tail _ (.tail _ (.tail _ (.head _)))))))
theorem wf_RX2_17 : (Cond.fieldLink RX2 17 "ReactiveNotebook$State" "count" "I") ∈ wsL_law := inR_2 _ (.tail _ (.tail _ (.tail _ (.tail _ (.tail _ (.tail _ (.tail _ (.head _))))))))
theorem wf_RX2_21 : (Cond.fieldLink RX2 21 "ReactiveNotebook$State" "eager" "I") ∈ wsL_law := inR_2 _ (.tail _ (.tail _ (.tail _ (.tail _ (.tail _ (.tail _ (.tail _ (.tail _ (.head _)))))))))
theorem wf_RX2_24 : (Cond.fieldLink RX2 24 "ReactiveNotebook$State" "totalRuns" "I") ∈ wsL_law := inR_2 _ (.tail _ (.tail _ (.tail _ (.tail _ (.tail _ (.tail _ (.tail _ (.tail _ (.tail _ (.head _))))))))))
theorem wf_RX2_27 : (Cond.fieldLink RX2 27 "ReactiveNotebook$State" "greatestVersion" "I") ∈ wsL_law := inR_2 _ (.tail _ (.tail _ (.tail _ (.tail _ (.tail _ (.tail _ (.tail _ (.tail _ (.tail _ (.tail _ (.head _)))))))))))
theorem wf_RX2_30 : (Cond.fieldLink RX2 30 "ReactiveNotebook$State" "lastRunCells" "[I") ∈ wsL_law := inR_2 _ (.tail _ (.tail _ (.tail _ (.tail _ (.tail _ (.tail _ (.tail _ (.tail _ (.tail _ (.tail _ (.tail _ (.head _))))))))))))
theorem wf_RX2_34 : (Cond.fieldLink RX2 34 "ReactiveNotebook$State" "lastRunCount" "I") ∈ wsL_law := inR_2 _ (.tail _ (.tail _ (.tail _ (.tail _ (.tail _ (.tail _ (.tail _ (.tail _ (.tail _ (.tail _ (.tail _ (.tail _ (.head _)))))))))))))
theorem wa_RX0 : (Cond.instantiable RX0 9) ∈ wsL_law := inR_2 _ (.tail _ (.tail _ (.tail _ (.tail _ (.tail _ (.tail _ (.tail _ (.tail _ (.tail _ (.tail _ (.tail _ (.tail _ (.tail _ (.head _))))))))))))))
theorem wn_RX0 : (Cond.initialized RX0) ∈ wsL_law := inR_2 _ (.tail _ (.tail _ (.tail _ (.tail _ (.tail _ (.tail _ (.tail _ (.tail _ (.tail _ (.tail _ (.tail _ (.tail _ (.tail _ (.tail _ (.head _)))))))))))))))
theorem wi_yX0_init : (Cond.instanceMethod yX0_init) ∈ wsL_law := inR_2 _ (.tail _ (.tail _ (.tail _ (.tail _ (.tail _ (.tail _ (.tail _ (.tail _ (.tail _ (.tail _ (.tail _ (.tail _ (.tail _ (.tail _ (.tail _ (.head _))))))))))))))))
theorem wc_yX0_init : (Cond.code yX0_init cX0_init 1 none) ∈ wsL_law := inR_2 _ (.tail _ (.tail _ (.tail _ (.tail _ (.tail _ (.tail _ (.tail _ (.tail _ (.tail _ (.tail _ (.tail _ (.tail _ (.tail _ (.tail _ (.tail _ (.tail _ (.head _)))))))))))))))))
theorem wm_RX0_3 : (Cond.methodLink RX0 3 objectInit) ∈ wsL_law := inR_2 _ (.tail _ (.tail _ (.tail _ (.tail _ (.tail _ (.tail _ (.tail _ (.tail _ (.tail _ (.tail _ (.tail _ (.tail _ (.tail _ (.tail _ (.tail _ (.tail _ (.tail _ (.head _))))))))))))))))))
theorem wm_RX3_30 : (Cond.methodLink RX3 30 yX1_init) ∈ wsL_law := inR_2 _ (.tail _ (.tail _ (.tail _ (.tail _ (.tail _ (.tail _ (.tail _ (.tail _ (.tail _ (.tail _ (.tail _ (.tail _ (.tail _ (.tail _ (.tail _ (.tail _ (.tail _ (.tail _ (.head _)))))))))))))))))))
theorem wi_yX1_init : (Cond.instanceMethod yX1_init) ∈ wsL_law := inR_2 _ (.tail _ (.tail _ (.tail _ (.tail _ (.tail _ (.tail _ (.tail _ (.tail _ (.tail _ (.tail _ (.tail _ (.tail _ (.tail _ (.tail _ (.tail _ (.tail _ (.tail _ (.tail _ (.tail _ (.head _))))))))))))))))))))
theorem wc_yX1_init : (Cond.code yX1_init cX1_init 1 none) ∈ wsL_law := inR_2 _ (.tail _ (.tail _ (.tail _ (.tail _ (.tail _ (.tail _ (.tail _ (.tail _ (.tail _ (.tail _ (.tail _ (.tail _ (.tail _ (.tail _ (.tail _ (.tail _ (.tail _ (.tail _ (.tail _ (.tail _ (.head _)))))))))))))))))))))
theorem wm_RX1_3 : (Cond.methodLink RX1 3 objectInit) ∈ wsL_law := inR_2 _ (.tail _ (.tail _ (.tail _ (.tail _ (.tail _ (.tail _ (.tail _ (.tail _ (.tail _ (.tail _ (.tail _ (.tail _ (.tail _ (.tail _ (.tail _ (.tail _ (.tail _ (.tail _ (.tail _ (.tail _ (.tail _ (.head _))))))))))))))))))))))
theorem wf_RX1_9 : (Cond.fieldLink RX1 9 "ReactiveNotebook$Graph" "definers" "[I") ∈ wsL_law := inR_2 _ (.tail _ (.tail _ (.tail _ (.tail _ (.tail _ (.tail _ (.tail _ (.tail _ (.tail _ (.tail _ (.tail _ (.tail _ (.tail _ (.tail _ (.tail _ (.tail _ (.tail _ (.tail _ (.tail _ (.tail _ (.tail _ (.tail _ (.head _)))))))))))))))))))))))
theorem wf_RX1_15 : (Cond.fieldLink RX1 15 "ReactiveNotebook$Graph" "soleDefiners" "[I") ∈ wsL_law := inR_2 _ (.tail _ (.tail _ (.tail _ (.tail _ (.tail _ (.tail _ (.tail _ (.tail _ (.tail _ (.tail _ (.tail _ (.tail _ (.tail _ (.tail _ (.tail _ (.tail _ (.tail _ (.tail _ (.tail _ (.tail _ (.tail _ (.tail _ (.tail _ (.head _))))))))))))))))))))))))
theorem wf_RX1_18 : (Cond.fieldLink RX1 18 "ReactiveNotebook$Graph" "dependencies" "[I") ∈ wsL_law := inR_3 _ (.head _)
theorem wf_RX1_21 : (Cond.fieldLink RX1 21 "ReactiveNotebook$Graph" "allDependencies" "[I") ∈ wsL_law := inR_3 _ (.tail _ (.head _))
theorem wf_RX1_24 : (Cond.fieldLink RX1 24 "ReactiveNotebook$Graph" "staticErrors" "[I") ∈ wsL_law := inR_3 _ (.tail _ (.tail _ (.head _)))
theorem wf_RX1_27 : (Cond.fieldLink RX1 27 "ReactiveNotebook$Graph" "runOrder" "[I") ∈ wsL_law := inR_3 _ (.tail _ (.tail _ (.tail _ (.head _))))
theorem wf_RX1_30 : (Cond.fieldLink RX1 30 "ReactiveNotebook$Graph" "runnableCount" "I") ∈ wsL_law := inR_3 _ (.tail _ (.tail _ (.tail _ (.tail _ (.head _)))))
theorem wm_RX1_34 : (Cond.methodLink RX1 34 yX1_clearDefiners) ∈ wsL_law := inR_3 _ (.tail _ (.tail _ (.tail _ (.tail _ (.tail _ (.head _))))))
theorem wi_yX1_clearDefiners : (Cond.instanceMethod yX1_clearDefiners) ∈ wsL_law := inR_3 _ (.tail _ (.tail _ (.tail _ (.tail _ (.tail _ (.tail _ (.head _)))))))
theorem wse_yX1_clearDefiners : (Cond.selects RX1 yX1_clearDefiners yX1_clearDefiners) ∈ wsL_law := inR_3 _ (.tail _ (.tail _ (.tail _ (.tail _ (.tail _ (.tail _ (.tail _ (.head _))))))))
theorem wc_yX1_clearDefiners : (Cond.code yX1_clearDefiners cX1_clearDefiners 2 none) ∈ wsL_law := inR_3 _ (.tail _ (.tail _ (.tail _ (.tail _ (.tail _ (.tail _ (.tail _ (.tail _ (.head _)))))))))
theorem wm_RL_12 : (Cond.methodLink RL 12 yX4_init) ∈ wsL_law := inR_3 _ (.tail _ (.tail _ (.tail _ (.tail _ (.tail _ (.tail _ (.tail _ (.tail _ (.tail _ (.head _))))))))))
theorem wi_yX4_init : (Cond.instanceMethod yX4_init) ∈ wsL_law := inR_3 _ (.tail _ (.tail _ (.tail _ (.tail _ (.tail _ (.tail _ (.tail _ (.tail _ (.tail _ (.tail _ (.head _)))))))))))
theorem wc_yX4_init : (Cond.code yX4_init cX4_init 1 none) ∈ wsL_law := inR_3 _ (.tail _ (.tail _ (.tail _ (.tail _ (.tail _ (.tail _ (.tail _ (.tail _ (.tail _ (.tail _ (.tail _ (.head _))))))))))))
theorem wm_RX4_1 : (Cond.methodLink RX4 1 objectInit) ∈ wsL_law := inR_3 _ (.tail _ (.tail _ (.tail _ (.tail _ (.tail _ (.tail _ (.tail _ (.tail _ (.tail _ (.tail _ (.tail _ (.tail _ (.head _)))))))))))))
theorem wf_RX4_7 : (Cond.fieldLink RX4 7 "ReactiveNotebookModel" "now" "[I") ∈ wsL_law := inR_3 _ (.tail _ (.tail _ (.tail _ (.tail _ (.tail _ (.tail _ (.tail _ (.tail _ (.tail _ (.tail _ (.tail _ (.tail _ (.tail _ (.head _))))))))))))))
theorem wf_RX4_13 : (Cond.fieldLink RX4 13 "ReactiveNotebookModel" "past" "[I") ∈ wsL_law := inR_3 _ (.tail _ (.tail _ (.tail _ (.tail _ (.tail _ (.tail _ (.tail _ (.tail _ (.tail _ (.tail _ (.tail _ (.tail _ (.tail _ (.tail _ (.head _)))))))))))))))
theorem wf_RX4_16 : (Cond.fieldLink RX4 16 "ReactiveNotebookModel" "counts" "[I") ∈ wsL_law := inR_3 _ (.tail _ (.tail _ (.tail _ (.tail _ (.tail _ (.tail _ (.tail _ (.tail _ (.tail _ (.tail _ (.tail _ (.tail _ (.tail _ (.tail _ (.tail _ (.head _))))))))))))))))
theorem wf_RX4_19 : (Cond.fieldLink RX4 19 "ReactiveNotebookModel" "direct" "[I") ∈ wsL_law := inR_3 _ (.tail _ (.tail _ (.tail _ (.tail _ (.tail _ (.tail _ (.tail _ (.tail _ (.tail _ (.tail _ (.tail _ (.tail _ (.tail _ (.tail _ (.tail _ (.tail _ (.head _)))))))))))))))))
theorem wf_RX4_22 : (Cond.fieldLink RX4 22 "ReactiveNotebookModel" "wrong" "[I") ∈ wsL_law := inR_3 _ (.tail _ (.tail _ (.tail _ (.tail _ (.tail _ (.tail _ (.tail _ (.tail _ (.tail _ (.tail _ (.tail _ (.tail _ (.tail _ (.tail _ (.tail _ (.tail _ (.tail _ (.head _))))))))))))))))))
theorem wf_RX4_25 : (Cond.fieldLink RX4 25 "ReactiveNotebookModel" "all" "[I") ∈ wsL_law := inR_3 _ (.tail _ (.tail _ (.tail _ (.tail _ (.tail _ (.tail _ (.tail _ (.tail _ (.tail _ (.tail _ (.tail _ (.tail _ (.tail _ (.tail _ (.tail _ (.tail _ (.tail _ (.tail _ (.head _)))))))))))))))))))
theorem wf_RX4_28 : (Cond.fieldLink RX4 28 "ReactiveNotebookModel" "order" "[I") ∈ wsL_law := inR_3 _ (.tail _ (.tail _ (.tail _ (.tail _ (.tail _ (.tail _ (.tail _ (.tail _ (.tail _ (.tail _ (.tail _ (.tail _ (.tail _ (.tail _ (.tail _ (.tail _ (.tail _ (.tail _ (.tail _ (.head _))))))))))))))))))))
theorem wr__boolean : (Cond.arrayClass .boolean) ∈ wsL_law := inR_3 _ (.tail _ (.tail _ (.tail _ (.tail _ (.tail _ (.tail _ (.tail _ (.tail _ (.tail _ (.tail _ (.tail _ (.tail _ (.tail _ (.tail _ (.tail _ (.tail _ (.tail _ (.tail _ (.tail _ (.tail _ (.head _)))))))))))))))))))))
theorem wf_RX4_31 : (Cond.fieldLink RX4 31 "ReactiveNotebookModel" "fresh" "[Z") ∈ wsL_law := inR_3 _ (.tail _ (.tail _ (.tail _ (.tail _ (.tail _ (.tail _ (.tail _ (.tail _ (.tail _ (.tail _ (.tail _ (.tail _ (.tail _ (.tail _ (.tail _ (.tail _ (.tail _ (.tail _ (.tail _ (.tail _ (.tail _ (.head _))))))))))))))))))))))
theorem wf_RX4_35 : (Cond.fieldLink RX4 35 "ReactiveNotebookModel" "moved" "[I") ∈ wsL_law := inR_3 _ (.tail _ (.tail _ (.tail _ (.tail _ (.tail _ (.tail _ (.tail _ (.tail _ (.tail _ (.tail _ (.tail _ (.tail _ (.tail _ (.tail _ (.tail _ (.tail _ (.tail _ (.tail _ (.tail _ (.tail _ (.tail _ (.tail _ (.head _)))))))))))))))))))))))
theorem wm_RL_13 : (Cond.methodLink RL 13 yX3_addCell) ∈ wsL_law := inR_3 _ (.tail _ (.tail _ (.tail _ (.tail _ (.tail _ (.tail _ (.tail _ (.tail _ (.tail _ (.tail _ (.tail _ (.tail _ (.tail _ (.tail _ (.tail _ (.tail _ (.tail _ (.tail _ (.tail _ (.tail _ (.tail _ (.tail _ (.tail _ (.head _))))))))))))))))))))))))
theorem wi_yX3_addCell : (Cond.instanceMethod yX3_addCell) ∈ wsL_law := inR_4 _ (.head _)
theorem wse_yX3_addCell : (Cond.selects RX3 yX3_addCell yX3_addCell) ∈ wsL_law := inR_4 _ (.tail _ (.head _))
theorem wc_yX3_addCell : (Cond.code yX3_addCell cX3_addCell 5 (some .int)) ∈ wsL_law := inR_4 _ (.tail _ (.tail _ (.head _)))
theorem wf_RX3_46 : (Cond.fieldLink RX3 46 "ReactiveNotebook$State" "count" "I") ∈ wsL_law := inR_4 _ (.tail _ (.tail _ (.tail _ (.head _))))
theorem wm_RX3_38 : (Cond.methodLink RX3 38 yX3_isDefinition) ∈ wsL_law := inR_4 _ (.tail _ (.tail _ (.tail _ (.tail _ (.head _)))))
theorem wt_yX3_isDefinition : (Cond.static yX3_isDefinition) ∈ wsL_law := inR_4 _ (.tail _ (.tail _ (.tail _ (.tail _ (.tail _ (.head _))))))
theorem wc_yX3_isDefinition : (Cond.code yX3_isDefinition cX3_isDefinition 4 (some .boolean)) ∈ wsL_law := inR_4 _ (.tail _ (.tail _ (.tail _ (.tail _ (.tail _ (.tail _ (.head _)))))))
theorem wm_RX3_115 : (Cond.methodLink RX3 115 yX3_isVariable) ∈ wsL_law := inR_4 _ (.tail _ (.tail _ (.tail _ (.tail _ (.tail _ (.tail _ (.tail _ (.head _))))))))
theorem wt_yX3_isVariable : (Cond.static yX3_isVariable) ∈ wsL_law := inR_4 _ (.tail _ (.tail _ (.tail _ (.tail _ (.tail _ (.tail _ (.tail _ (.tail _ (.head _)))))))))
theorem wc_yX3_isVariable : (Cond.code yX3_isVariable cX3_isVariable 1 (some .boolean)) ∈ wsL_law := inR_4 _ (.tail _ (.tail _ (.tail _ (.tail _ (.tail _ (.tail _ (.tail _ (.tail _ (.tail _ (.head _))))))))))
theorem wm_RX3_178 : (Cond.methodLink RX3 178 yX3_isOperand) ∈ wsL_law := inR_4 _ (.tail _ (.tail _ (.tail _ (.tail _ (.tail _ (.tail _ (.tail _ (.tail _ (.tail _ (.tail _ (.head _)))))))))))
theorem wt_yX3_isOperand : (Cond.static yX3_isOperand) ∈ wsL_law := inR_4 _ (.tail _ (.tail _ (.tail _ (.tail _ (.tail _ (.tail _ (.tail _ (.tail _ (.tail _ (.tail _ (.tail _ (.head _))))))))))))
theorem wc_yX3_isOperand : (Cond.code yX3_isOperand cX3_isOperand 1 (some .boolean)) ∈ wsL_law := inR_4 _ (.tail _ (.tail _ (.tail _ (.tail _ (.tail _ (.tail _ (.tail _ (.tail _ (.tail _ (.tail _ (.tail _ (.tail _ (.head _)))))))))))))
theorem wm_RX3_42 : (Cond.methodLink RX3 42 yX3_fail) ∈ wsL_law := inR_4 _ (.tail _ (.tail _ (.tail _ (.tail _ (.tail _ (.tail _ (.tail _ (.tail _ (.tail _ (.tail _ (.tail _ (.tail _ (.tail _ (.head _))))))))))))))
theorem wi_yX3_fail : (Cond.instanceMethod yX3_fail) ∈ wsL_law := inR_4 _ (.tail _ (.tail _ (.tail _ (.tail _ (.tail _ (.tail _ (.tail _ (.tail _ (.tail _ (.tail _ (.tail _ (.tail _ (.tail _ (.tail _ (.head _)))))))))))))))
theorem wse_yX3_fail : (Cond.selects RX3 yX3_fail yX3_fail) ∈ wsL_law := inR_4 _ (.tail _ (.tail _ (.tail _ (.tail _ (.tail _ (.tail _ (.tail _ (.tail _ (.tail _ (.tail _ (.tail _ (.tail _ (.tail _ (.tail _ (.tail _ (.head _))))))))))))))))
theorem wc_yX3_fail : (Cond.code yX3_fail cX3_fail 3 (some .int)) ∈ wsL_law := inR_4 _ (.tail _ (.tail _ (.tail _ (.tail _ (.tail _ (.tail _ (.tail _ (.tail _ (.tail _ (.tail _ (.tail _ (.tail _ (.tail _ (.tail _ (.tail _ (.tail _ (.head _)))))))))))))))))
theorem wm_RX3_49 : (Cond.methodLink RX3 49 yX3_save) ∈ wsL_law := inR_4 _ (.tail _ (.tail _ (.tail _ (.tail _ (.tail _ (.tail _ (.tail _ (.tail _ (.tail _ (.tail _ (.tail _ (.tail _ (.tail _ (.tail _ (.tail _ (.tail _ (.tail _ (.head _))))))))))))))))))
theorem wi_yX3_save : (Cond.instanceMethod yX3_save) ∈ wsL_law := inR_4 _ (.tail _ (.tail _ (.tail _ (.tail _ (.tail _ (.tail _ (.tail _ (.tail _ (.tail _ (.tail _ (.tail _ (.tail _ (.tail _ (.tail _ (.tail _ (.tail _ (.tail _ (.tail _ (.head _)))))))))))))))))))
theorem wse_yX3_save : (Cond.selects RX3 yX3_save yX3_save) ∈ wsL_law := inR_4 _ (.tail _ (.tail _ (.tail _ (.tail _ (.tail _ (.tail _ (.tail _ (.tail _ (.tail _ (.tail _ (.tail _ (.tail _ (.tail _ (.tail _ (.tail _ (.tail _ (.tail _ (.tail _ (.tail _ (.head _))))))))))))))))))))
theorem wc_yX3_save : (Cond.code yX3_save cX3_save 1 none) ∈ wsL_law := inR_4 _ (.tail _ (.tail _ (.tail _ (.tail _ (.tail _ (.tail _ (.tail _ (.tail _ (.tail _ (.tail _ (.tail _ (.tail _ (.tail _ (.tail _ (.tail _ (.tail _ (.tail _ (.tail _ (.tail _ (.tail _ (.head _)))))))))))))))))))))
theorem wm_RX3_181 : (Cond.methodLink RX3 181 yX3_dropOldest) ∈ wsL_law := inR_4 _ (.tail _ (.tail _ (.tail _ (.tail _ (.tail _ (.tail _ (.tail _ (.tail _ (.tail _ (.tail _ (.tail _ (.tail _ (.tail _ (.tail _ (.tail _ (.tail _ (.tail _ (.tail _ (.tail _ (.tail _ (.tail _ (.head _))))))))))))))))))))))
theorem wi_yX3_dropOldest : (Cond.instanceMethod yX3_dropOldest) ∈ wsL_law := inR_4 _ (.tail _ (.tail _ (.tail _ (.tail _ (.tail _ (.tail _ (.tail _ (.tail _ (.tail _ (.tail _ (.tail _ (.tail _ (.tail _ (.tail _ (.tail _ (.tail _ (.tail _ (.tail _ (.tail _ (.tail _ (.tail _ (.tail _ (.head _)))))))))))))))))))))))
theorem wse_yX3_dropOldest : (Cond.selects RX3 yX3_dropOldest yX3_dropOldest) ∈ wsL_law := inR_4 _ (.tail _ (.tail _ (.tail _ (.tail _ (.tail _ (.tail _ (.tail _ (.tail _ (.tail _ (.tail _ (.tail _ (.tail _ (.tail _ (.tail _ (.tail _ (.tail _ (.tail _ (.tail _ (.tail _ (.tail _ (.tail _ (.tail _ (.tail _ (.head _))))))))))))))))))))))))
theorem wc_yX3_dropOldest : (Cond.code yX3_dropOldest cX3_dropOldest 3 none) ∈ wsL_law := inR_5 _ (.head _)
theorem wm_RX3_150 : (Cond.methodLink RX3 150 yX2_copyFrom) ∈ wsL_law := inR_5 _ (.tail _ (.head _))
theorem wi_yX2_copyFrom : (Cond.instanceMethod yX2_copyFrom) ∈ wsL_law := inR_5 _ (.tail _ (.tail _ (.head _)))
theorem wse_yX2_copyFrom : (Cond.selects RX2 yX2_copyFrom yX2_copyFrom) ∈ wsL_law := inR_5 _ (.tail _ (.tail _ (.tail _ (.head _))))
theorem wc_yX2_copyFrom : (Cond.code yX2_copyFrom cX2_copyFrom 3 none) ∈ wsL_law := inR_5 _ (.tail _ (.tail _ (.tail _ (.tail _ (.head _)))))
theorem wm_RX2_38 : (Cond.methodLink RX2 38 yX0_copyFrom) ∈ wsL_law := inR_5 _ (.tail _ (.tail _ (.tail _ (.tail _ (.tail _ (.head _))))))
theorem wi_yX0_copyFrom : (Cond.instanceMethod yX0_copyFrom) ∈ wsL_law := inR_5 _ (.tail _ (.tail _ (.tail _ (.tail _ (.tail _ (.tail _ (.head _)))))))
theorem wse_yX0_copyFrom : (Cond.selects RX0 yX0_copyFrom yX0_copyFrom) ∈ wsL_law := inR_5 _ (.tail _ (.tail _ (.tail _ (.tail _ (.tail _ (.tail _ (.tail _ (.head _))))))))
theorem wc_yX0_copyFrom : (Cond.code yX0_copyFrom cX0_copyFrom 2 none) ∈ wsL_law := inR_5 _ (.tail _ (.tail _ (.tail _ (.tail _ (.tail _ (.tail _ (.tail _ (.tail _ (.head _)))))))))
theorem wf_RX0_9 : (Cond.fieldLink RX0 9 "ReactiveNotebook$Cell" "variable" "I") ∈ wsL_law := inR_5 _ (.tail _ (.tail _ (.tail _ (.tail _ (.tail _ (.tail _ (.tail _ (.tail _ (.tail _ (.head _))))))))))
theorem wf_RX0_15 : (Cond.fieldLink RX0 15 "ReactiveNotebook$Cell" "operator" "I") ∈ wsL_law := inR_5 _ (.tail _ (.tail _ (.tail _ (.tail _ (.tail _ (.tail _ (.tail _ (.tail _ (.tail _ (.tail _ (.head _)))))))))))
theorem wf_RX0_18 : (Cond.fieldLink RX0 18 "ReactiveNotebook$Cell" "left" "I") ∈ wsL_law := inR_5 _ (.tail _ (.tail _ (.tail _ (.tail _ (.tail _ (.tail _ (.tail _ (.tail _ (.tail _ (.tail _ (.tail _ (.head _))))))))))))
theorem wf_RX0_21 : (Cond.fieldLink RX0 21 "ReactiveNotebook$Cell" "right" "I") ∈ wsL_law := inR_5 _ (.tail _ (.tail _ (.tail _ (.tail _ (.tail _ (.tail _ (.tail _ (.tail _ (.tail _ (.tail _ (.tail _ (.tail _ (.head _)))))))))))))
theorem wf_RX0_27 : (Cond.fieldLink RX0 27 "ReactiveNotebook$Cell" "result" "I") ∈ wsL_law := inR_5 _ (.tail _ (.tail _ (.tail _ (.tail _ (.tail _ (.tail _ (.tail _ (.tail _ (.tail _ (.tail _ (.tail _ (.tail _ (.tail _ (.head _))))))))))))))
theorem wf_RX0_24 : (Cond.fieldLink RX0 24 "ReactiveNotebook$Cell" "version" "I") ∈ wsL_law := inR_5 _ (.tail _ (.tail _ (.tail _ (.tail _ (.tail _ (.tail _ (.tail _ (.tail _ (.tail _ (.tail _ (.tail _ (.tail _ (.tail _ (.tail _ (.head _)))))))))))))))
theorem wf_RX0_30 : (Cond.fieldLink RX0 30 "ReactiveNotebook$Cell" "leftVersion" "I") ∈ wsL_law := inR_5 _ (.tail _ (.tail _ (.tail _ (.tail _ (.tail _ (.tail _ (.tail _ (.tail _ (.tail _ (.tail _ (.tail _ (.tail _ (.tail _ (.tail _ (.tail _ (.head _))))))))))))))))
theorem wf_RX0_33 : (Cond.fieldLink RX0 33 "ReactiveNotebook$Cell" "rightVersion" "I") ∈ wsL_law := inR_5 _ (.tail _ (.tail _ (.tail _ (.tail _ (.tail _ (.tail _ (.tail _ (.tail _ (.tail _ (.tail _ (.tail _ (.tail _ (.tail _ (.tail _ (.tail _ (.tail _ (.head _)))))))))))))))))
theorem wf_RX0_36 : (Cond.fieldLink RX0 36 "ReactiveNotebook$Cell" "runs" "I") ∈ wsL_law := inR_5 _ (.tail _ (.tail _ (.tail _ (.tail _ (.tail _ (.tail _ (.tail _ (.tail _ (.tail _ (.tail _ (.tail _ (.tail _ (.tail _ (.tail _ (.tail _ (.tail _ (.tail _ (.head _))))))))))))))))))
theorem wm_RX3_52 : (Cond.methodLink RX3 52 yX2_append) ∈ wsL_law := inR_5 _ (.tail _ (.tail _ (.tail _ (.tail _ (.tail _ (.tail _ (.tail _ (.tail _ (.tail _ (.tail _ (.tail _ (.tail _ (.tail _ (.tail _ (.tail _ (.tail _ (.tail _ (.tail _ (.head _)))))))))))))))))))
theorem wi_yX2_append : (Cond.instanceMethod yX2_append) ∈ wsL_law := inR_5 _ (.tail _ (.tail _ (.tail _ (.tail _ (.tail _ (.tail _ (.tail _ (.tail _ (.tail _ (.tail _ (.tail _ (.tail _ (.tail _ (.tail _ (.tail _ (.tail _ (.tail _ (.tail _ (.tail _ (.head _))))))))))))))))))))
theorem wse_yX2_append : (Cond.selects RX2 yX2_append yX2_append) ∈ wsL_law := inR_5 _ (.tail _ (.tail _ (.tail _ (.tail _ (.tail _ (.tail _ (.tail _ (.tail _ (.tail _ (.tail _ (.tail _ (.tail _ (.tail _ (.tail _ (.tail _ (.tail _ (.tail _ (.tail _ (.tail _ (.tail _ (.head _)))))))))))))))))))))
theorem wc_yX2_append : (Cond.code yX2_append cX2_append 6 none) ∈ wsL_law := inR_5 _ (.tail _ (.tail _ (.tail _ (.tail _ (.tail _ (.tail _ (.tail _ (.tail _ (.tail _ (.tail _ (.tail _ (.tail _ (.tail _ (.tail _ (.tail _ (.tail _ (.tail _ (.tail _ (.tail _ (.tail _ (.tail _ (.head _))))))))))))))))))))))
theorem wf_RX2_46 : (Cond.fieldLink RX2 46 "ReactiveNotebook$Cell" "runs" "I") ∈ wsL_law := inR_5 _ (.tail _ (.tail _ (.tail _ (.tail _ (.tail _ (.tail _ (.tail _ (.tail _ (.tail _ (.tail _ (.tail _ (.tail _ (.tail _ (.tail _ (.tail _ (.tail _ (.tail _ (.tail _ (.tail _ (.tail _ (.tail _ (.tail _ (.head _)))))))))))))))))))))))
theorem wm_RX2_42 : (Cond.methodLink RX2 42 yX0_define) ∈ wsL_law := inR_5 _ (.tail _ (.tail _ (.tail _ (.tail _ (.tail _ (.tail _ (.tail _ (.tail _ (.tail _ (.tail _ (.tail _ (.tail _ (.tail _ (.tail _ (.tail _ (.tail _ (.tail _ (.tail _ (.tail _ (.tail _ (.tail _ (.tail _ (.tail _ (.head _))))))))))))))))))))))))
theorem wi_yX0_define : (Cond.instanceMethod yX0_define) ∈ wsL_law := inR_6 _ (.head _)
theorem wse_yX0_define : (Cond.selects RX0 yX0_define yX0_define) ∈ wsL_law := inR_6 _ (.tail _ (.head _))
theorem wc_yX0_define : (Cond.code yX0_define cX0_define 5 none) ∈ wsL_law := inR_6 _ (.tail _ (.tail _ (.head _)))
theorem wm_RX3_56 : (Cond.methodLink RX3 56 yX3_finishEditing) ∈ wsL_law := inR_6 _ (.tail _ (.tail _ (.tail _ (.head _))))
theorem wi_yX3_finishEditing : (Cond.instanceMethod yX3_finishEditing) ∈ wsL_law := inR_6 _ (.tail _ (.tail _ (.tail _ (.tail _ (.head _)))))
theorem wse_yX3_finishEditing : (Cond.selects RX3 yX3_finishEditing yX3_finishEditing) ∈ wsL_law := inR_6 _ (.tail _ (.tail _ (.tail _ (.tail _ (.tail _ (.head _))))))
theorem wc_yX3_finishEditing : (Cond.code yX3_finishEditing cX3_finishEditing 1 none) ∈ wsL_law := inR_6 _ (.tail _ (.tail _ (.tail _ (.tail _ (.tail _ (.tail _ (.head _)))))))
theorem wf_RX3_88 : (Cond.fieldLink RX3 88 "ReactiveNotebook$State" "eager" "I") ∈ wsL_law := inR_6 _ (.tail _ (.tail _ (.tail _ (.tail _ (.tail _ (.tail _ (.tail _ (.head _))))))))
theorem wm_RX3_154 : (Cond.methodLink RX3 154 yX1_derive) ∈ wsL_law := inR_6 _ (.tail _ (.tail _ (.tail _ (.tail _ (.tail _ (.tail _ (.tail _ (.tail _ (.head _)))))))))
theorem wi_yX1_derive : (Cond.instanceMethod yX1_derive) ∈ wsL_law := inR_6 _ (.tail _ (.tail _ (.tail _ (.tail _ (.tail _ (.tail _ (.tail _ (.tail _ (.tail _ (.head _))))))))))
theorem wse_yX1_derive : (Cond.selects RX1 yX1_derive yX1_derive) ∈ wsL_law := inR_6 _ (.tail _ (.tail _ (.tail _ (.tail _ (.tail _ (.tail _ (.tail _ (.tail _ (.tail _ (.tail _ (.head _)))))))))))
theorem wc_yX1_derive : (Cond.code yX1_derive cX1_derive 2 none) ∈ wsL_law := inR_6 _ (.tail _ (.tail _ (.tail _ (.tail _ (.tail _ (.tail _ (.tail _ (.tail _ (.tail _ (.tail _ (.tail _ (.head _))))))))))))
theorem wf_RX1_44 : (Cond.fieldLink RX1 44 "ReactiveNotebook$State" "count" "I") ∈ wsL_law := inR_6 _ (.tail _ (.tail _ (.tail _ (.tail _ (.tail _ (.tail _ (.tail _ (.tail _ (.tail _ (.tail _ (.tail _ (.tail _ (.head _)))))))))))))
theorem wm_RX1_37 : (Cond.methodLink RX1 37 yX1_findDefiners) ∈ wsL_law := inR_6 _ (.tail _ (.tail _ (.tail _ (.tail _ (.tail _ (.tail _ (.tail _ (.tail _ (.tail _ (.tail _ (.tail _ (.tail _ (.tail _ (.head _))))))))))))))
theorem wi_yX1_findDefiners : (Cond.instanceMethod yX1_findDefiners) ∈ wsL_law := inR_6 _ (.tail _ (.tail _ (.tail _ (.tail _ (.tail _ (.tail _ (.tail _ (.tail _ (.tail _ (.tail _ (.tail _ (.tail _ (.tail _ (.tail _ (.head _)))))))))))))))
theorem wse_yX1_findDefiners : (Cond.selects RX1 yX1_findDefiners yX1_findDefiners) ∈ wsL_law := inR_6 _ (.tail _ (.tail _ (.tail _ (.tail _ (.tail _ (.tail _ (.tail _ (.tail _ (.tail _ (.tail _ (.tail _ (.tail _ (.tail _ (.tail _ (.tail _ (.head _))))))))))))))))
theorem wc_yX1_findDefiners : (Cond.code yX1_findDefiners cX1_findDefiners 4 none) ∈ wsL_law := inR_6 _ (.tail _ (.tail _ (.tail _ (.tail _ (.tail _ (.tail _ (.tail _ (.tail _ (.tail _ (.tail _ (.tail _ (.tail _ (.tail _ (.tail _ (.tail _ (.tail _ (.head _)))))))))))))))))
theorem wf_RX1_63 : (Cond.fieldLink RX1 63 "ReactiveNotebook$State" "cells" "[LReactiveNotebook$Cell;") ∈ wsL_law := inR_6 _ (.tail _ (.tail _ (.tail _ (.tail _ (.tail _ (.tail _ (.tail _ (.tail _ (.tail _ (.tail _ (.tail _ (.tail _ (.tail _ (.tail _ (.tail _ (.tail _ (.tail _ (.head _))))))))))))))))))
theorem wf_RX1_67 : (Cond.fieldLink RX1 67 "ReactiveNotebook$Cell" "variable" "I") ∈ wsL_law := inR_6 _ (.tail _ (.tail _ (.tail _ (.tail _ (.tail _ (.tail _ (.tail _ (.tail _ (.tail _ (.tail _ (.tail _ (.tail _ (.tail _ (.tail _ (.tail _ (.tail _ (.tail _ (.tail _ (.head _)))))))))))))))))))
theorem wm_RX1_41 : (Cond.methodLink RX1 41 yX1_findDependencies) ∈ wsL_law := inR_6 _ (.tail _ (.tail _ (.tail _ (.tail _ (.tail _ (.tail _ (.tail _ (.tail _ (.tail _ (.tail _ (.tail _ (.tail _ (.tail _ (.tail _ (.tail _ (.tail _ (.tail _ (.tail _ (.tail _ (.head _))))))))))))))))))))
theorem wi_yX1_findDependencies : (Cond.instanceMethod yX1_findDependencies) ∈ wsL_law := inR_6 _ (.tail _ (.tail _ (.tail _ (.tail _ (.tail _ (.tail _ (.tail _ (.tail _ (.tail _ (.tail _ (.tail _ (.tail _ (.tail _ (.tail _ (.tail _ (.tail _ (.tail _ (.tail _ (.tail _ (.tail _ (.head _)))))))))))))))))))))
theorem wse_yX1_findDependencies : (Cond.selects RX1 yX1_findDependencies yX1_findDependencies) ∈ wsL_law := inR_6 _ (.tail _ (.tail _ (.tail _ (.tail _ (.tail _ (.tail _ (.tail _ (.tail _ (.tail _ (.tail _ (.tail _ (.tail _ (.tail _ (.tail _ (.tail _ (.tail _ (.tail _ (.tail _ (.tail _ (.tail _ (.tail _ (.head _))))))))))))))))))))))
theorem wc_yX1_findDependencies : (Cond.code yX1_findDependencies cX1_findDependencies 3 none) ∈ wsL_law := inR_6 _ (.tail _ (.tail _ (.tail _ (.tail _ (.tail _ (.tail _ (.tail _ (.tail _ (.tail _ (.tail _ (.tail _ (.tail _ (.tail _ (.tail _ (.tail _ (.tail _ (.tail _ (.tail _ (.tail _ (.tail _ (.tail _ (.tail _ (.head _)))))))))))))))))))))))
theorem wf_RX1_75 : (Cond.fieldLink RX1 75 "ReactiveNotebook$Cell" "left" "I") ∈ wsL_law := inR_6 _ (.tail _ (.tail _ (.tail _ (.tail _ (.tail _ (.tail _ (.tail _ (.tail _ (.tail _ (.tail _ (.tail _ (.tail _ (.tail _ (.tail _ (.tail _ (.tail _ (.tail _ (.tail _ (.tail _ (.tail _ (.tail _ (.tail _ (.tail _ (.head _))))))))))))))))))))))))
theorem wf_RX1_82 : (Cond.fieldLink RX1 82 "ReactiveNotebook$Cell" "right" "I") ∈ wsL_law := inR_7 _ (.head _)
theorem wm_RX1_78 : (Cond.methodLink RX1 78 yX1_dependencyOn) ∈ wsL_law := inR_7 _ (.tail _ (.head _))
theorem wi_yX1_dependencyOn : (Cond.instanceMethod yX1_dependencyOn) ∈ wsL_law := inR_7 _ (.tail _ (.tail _ (.head _)))
theorem wse_yX1_dependencyOn : (Cond.selects RX1 yX1_dependencyOn yX1_dependencyOn) ∈ wsL_law := inR_7 _ (.tail _ (.tail _ (.tail _ (.head _))))
theorem wc_yX1_dependencyOn : (Cond.code yX1_dependencyOn cX1_dependencyOn 3 (some .int)) ∈ wsL_law := inR_7 _ (.tail _ (.tail _ (.tail _ (.tail _ (.head _)))))
theorem wm_RX1_85 : (Cond.methodLink RX1 85 yX1_soleDefinerOf) ∈ wsL_law := inR_7 _ (.tail _ (.tail _ (.tail _ (.tail _ (.tail _ (.head _))))))
theorem wi_yX1_soleDefinerOf : (Cond.instanceMethod yX1_soleDefinerOf) ∈ wsL_law := inR_7 _ (.tail _ (.tail _ (.tail _ (.tail _ (.tail _ (.tail _ (.head _)))))))
theorem wse_yX1_soleDefinerOf : (Cond.selects RX1 yX1_soleDefinerOf yX1_soleDefinerOf) ∈ wsL_law := inR_7 _ (.tail _ (.tail _ (.tail _ (.tail _ (.tail _ (.tail _ (.tail _ (.head _))))))))
theorem wc_yX1_soleDefinerOf : (Cond.code yX1_soleDefinerOf cX1_soleDefinerOf 2 (some .int)) ∈ wsL_law := inR_7 _ (.tail _ (.tail _ (.tail _ (.tail _ (.tail _ (.tail _ (.tail _ (.tail _ (.head _)))))))))
theorem wt_yX3_isVariableOperand : (Cond.static yX3_isVariableOperand) ∈ wsL_law := inR_7 _ (.tail _ (.tail _ (.tail _ (.tail _ (.tail _ (.tail _ (.tail _ (.tail _ (.tail _ (.head _))))))))))
theorem wc_yX3_isVariableOperand : (Cond.code yX3_isVariableOperand cX3_isVariableOperand 1 (some .boolean)) ∈ wsL_law := inR_7 _ (.tail _ (.tail _ (.tail _ (.tail _ (.tail _ (.tail _ (.tail _ (.tail _ (.tail _ (.tail _ (.head _)))))))))))
theorem wm_RX1_49 : (Cond.methodLink RX1 49 yX1_closeDependencies) ∈ wsL_law := inR_7 _ (.tail _ (.tail _ (.tail _ (.tail _ (.tail _ (.tail _ (.tail _ (.tail _ (.tail _ (.tail _ (.tail _ (.head _))))))))))))
theorem wi_yX1_closeDependencies : (Cond.instanceMethod yX1_closeDependencies) ∈ wsL_law := inR_7 _ (.tail _ (.tail _ (.tail _ (.tail _ (.tail _ (.tail _ (.tail _ (.tail _ (.tail _ (.tail _ (.tail _ (.tail _ (.head _)))))))))))))
theorem wse_yX1_closeDependencies : (Cond.selects RX1 yX1_closeDependencies yX1_closeDependencies) ∈ wsL_law := inR_7 _ (.tail _ (.tail _ (.tail _ (.tail _ (.tail _ (.tail _ (.tail _ (.tail _ (.tail _ (.tail _ (.tail _ (.tail _ (.tail _ (.head _))))))))))))))
theorem wc_yX1_closeDependencies : (Cond.code yX1_closeDependencies cX1_closeDependencies 4 none) ∈ wsL_law := inR_7 _ (.tail _ (.tail _ (.tail _ (.tail _ (.tail _ (.tail _ (.tail _ (.tail _ (.tail _ (.tail _ (.tail _ (.tail _ (.tail _ (.tail _ (.head _)))))))))))))))
theorem wt_yX3_contains : (Cond.static yX3_contains) ∈ wsL_law := inR_7 _ (.tail _ (.tail _ (.tail _ (.tail _ (.tail _ (.tail _ (.tail _ (.tail _ (.tail _ (.tail _ (.tail _ (.tail _ (.tail _ (.tail _ (.tail _ (.head _))))))))))))))))
theorem wc_yX3_contains : (Cond.code yX3_contains cX3_contains 2 (some .boolean)) ∈ wsL_law := inR_7 _ (.tail _ (.tail _ (.tail _ (.tail _ (.tail _ (.tail _ (.tail _ (.tail _ (.tail _ (.tail _ (.tail _ (.tail _ (.tail _ (.tail _ (.tail _ (.tail _ (.head _)))))))))))))))))
theorem wm_RX1_53 : (Cond.methodLink RX1 53 yX1_findStaticErrors) ∈ wsL_law := inR_7 _ (.tail _ (.tail _ (.tail _ (.tail _ (.tail _ (.tail _ (.tail _ (.tail _ (.tail _ (.tail _ (.tail _ (.tail _ (.tail _ (.tail _ (.tail _ (.tail _ (.tail _ (.head _))))))))))))))))))
theorem wi_yX1_findStaticErrors : (Cond.instanceMethod yX1_findStaticErrors) ∈ wsL_law := inR_7 _ (.tail _ (.tail _ (.tail _ (.tail _ (.tail _ (.tail _ (.tail _ (.tail _ (.tail _ (.tail _ (.tail _ (.tail _ (.tail _ (.tail _ (.tail _ (.tail _ (.tail _ (.tail _ (.head _)))))))))))))))))))
theorem wse_yX1_findStaticErrors : (Cond.selects RX1 yX1_findStaticErrors yX1_findStaticErrors) ∈ wsL_law := inR_7 _ (.tail _ (.tail _ (.tail _ (.tail _ (.tail _ (.tail _ (.tail _ (.tail _ (.tail _ (.tail _ (.tail _ (.tail _ (.tail _ (.tail _ (.tail _ (.tail _ (.tail _ (.tail _ (.tail _ (.head _))))))))))))))))))))
theorem wc_yX1_findStaticErrors : (Cond.code yX1_findStaticErrors cX1_findStaticErrors 4 none) ∈ wsL_law := inR_7 _ (.tail _ (.tail _ (.tail _ (.tail _ (.tail _ (.tail _ (.tail _ (.tail _ (.tail _ (.tail _ (.tail _ (.tail _ (.tail _ (.tail _ (.tail _ (.tail _ (.tail _ (.tail _ (.tail _ (.tail _ (.head _)))))))))))))))))))))
theorem wm_RX1_92 : (Cond.methodLink RX1 92 yX1_ownError) ∈ wsL_law := inR_7 _ (.tail _ (.tail _ (.tail _ (.tail _ (.tail _ (.tail _ (.tail _ (.tail _ (.tail _ (.tail _ (.tail _ (.tail _ (.tail _ (.tail _ (.tail _ (.tail _ (.tail _ (.tail _ (.tail _ (.tail _ (.tail _ (.head _))))))))))))))))))))))
theorem wi_yX1_ownError : (Cond.instanceMethod yX1_ownError) ∈ wsL_law := inR_7 _ (.tail _ (.tail _ (.tail _ (.tail _ (.tail _ (.tail _ (.tail _ (.tail _ (.tail _ (.tail _ (.tail _ (.tail _ (.tail _ (.tail _ (.tail _ (.tail _ (.tail _ (.tail _ (.tail _ (.tail _ (.tail _ (.tail _ (.head _)))))))))))))))))))))))
theorem wse_yX1_ownError : (Cond.selects RX1 yX1_ownError yX1_ownError) ∈ wsL_law := inR_7 _ (.tail _ (.tail _ (.tail _ (.tail _ (.tail _ (.tail _ (.tail _ (.tail _ (.tail _ (.tail _ (.tail _ (.tail _ (.tail _ (.tail _ (.tail _ (.tail _ (.tail _ (.tail _ (.tail _ (.tail _ (.tail _ (.tail _ (.tail _ (.head _))))))))))))))))))))))))
theorem wc_yX1_ownError : (Cond.code yX1_ownError cX1_ownError 3 (some .int)) ∈ wsL_law := inR_8 _ (.head _)
theorem wm_RX1_100 : (Cond.methodLink RX1 100 yX1_isUndefined) ∈ wsL_law := inR_8 _ (.tail _ (.head _))
theorem wi_yX1_isUndefined : (Cond.instanceMethod yX1_isUndefined) ∈ wsL_law := inR_8 _ (.tail _ (.tail _ (.head _)))
theorem wse_yX1_isUndefined : (Cond.selects RX1 yX1_isUndefined yX1_isUndefined) ∈ wsL_law := inR_8 _ (.tail _ (.tail _ (.tail _ (.head _))))
theorem wc_yX1_isUndefined : (Cond.code yX1_isUndefined cX1_isUndefined 2 (some .boolean)) ∈ wsL_law := inR_8 _ (.tail _ (.tail _ (.tail _ (.tail _ (.head _)))))
theorem wm_RX1_103 : (Cond.methodLink RX1 103 yX1_definersOf) ∈ wsL_law := inR_8 _ (.tail _ (.tail _ (.tail _ (.tail _ (.tail _ (.head _))))))
theorem wi_yX1_definersOf : (Cond.instanceMethod yX1_definersOf) ∈ wsL_law := inR_8 _ (.tail _ (.tail _ (.tail _ (.tail _ (.tail _ (.tail _ (.head _)))))))
theorem wse_yX1_definersOf : (Cond.selects RX1 yX1_definersOf yX1_definersOf) ∈ wsL_law := inR_8 _ (.tail _ (.tail _ (.tail _ (.tail _ (.tail _ (.tail _ (.tail _ (.head _))))))))
theorem wc_yX1_definersOf : (Cond.code yX1_definersOf cX1_definersOf 2 (some .int)) ∈ wsL_law := inR_8 _ (.tail _ (.tail _ (.tail _ (.tail _ (.tail _ (.tail _ (.tail _ (.tail _ (.head _)))))))))
theorem wm_RX1_96 : (Cond.methodLink RX1 96 yX1_spreadBadInput) ∈ wsL_law := inR_8 _ (.tail _ (.tail _ (.tail _ (.tail _ (.tail _ (.tail _ (.tail _ (.tail _ (.tail _ (.head _))))))))))
theorem wi_yX1_spreadBadInput : (Cond.instanceMethod yX1_spreadBadInput) ∈ wsL_law := inR_8 _ (.tail _ (.tail _ (.tail _ (.tail _ (.tail _ (.tail _ (.tail _ (.tail _ (.tail _ (.tail _ (.head _)))))))))))
theorem wse_yX1_spreadBadInput : (Cond.selects RX1 yX1_spreadBadInput yX1_spreadBadInput) ∈ wsL_law := inR_8 _ (.tail _ (.tail _ (.tail _ (.tail _ (.tail _ (.tail _ (.tail _ (.tail _ (.tail _ (.tail _ (.tail _ (.head _))))))))))))
theorem wc_yX1_spreadBadInput : (Cond.code yX1_spreadBadInput cX1_spreadBadInput 7 none) ∈ wsL_law := inR_8 _ (.tail _ (.tail _ (.tail _ (.tail _ (.tail _ (.tail _ (.tail _ (.tail _ (.tail _ (.tail _ (.tail _ (.tail _ (.head _)))))))))))))
theorem wm_RX1_56 : (Cond.methodLink RX1 56 yX1_buildRunOrder) ∈ wsL_law := inR_8 _ (.tail _ (.tail _ (.tail _ (.tail _ (.tail _ (.tail _ (.tail _ (.tail _ (.tail _ (.tail _ (.tail _ (.tail _ (.tail _ (.head _))))))))))))))
theorem wi_yX1_buildRunOrder : (Cond.instanceMethod yX1_buildRunOrder) ∈ wsL_law := inR_8 _ (.tail _ (.tail _ (.tail _ (.tail _ (.tail _ (.tail _ (.tail _ (.tail _ (.tail _ (.tail _ (.tail _ (.tail _ (.tail _ (.tail _ (.head _)))))))))))))))
theorem wse_yX1_buildRunOrder : (Cond.selects RX1 yX1_buildRunOrder yX1_buildRunOrder) ∈ wsL_law := inR_8 _ (.tail _ (.tail _ (.tail _ (.tail _ (.tail _ (.tail _ (.tail _ (.tail _ (.tail _ (.tail _ (.tail _ (.tail _ (.tail _ (.tail _ (.tail _ (.head _))))))))))))))))
theorem wc_yX1_buildRunOrder : (Cond.code yX1_buildRunOrder cX1_buildRunOrder 5 none) ∈ wsL_law := inR_8 _ (.tail _ (.tail _ (.tail _ (.tail _ (.tail _ (.tail _ (.tail _ (.tail _ (.tail _ (.tail _ (.tail _ (.tail _ (.tail _ (.tail _ (.tail _ (.tail _ (.head _)))))))))))))))))
theorem wm_RX1_106 : (Cond.methodLink RX1 106 yX1_lowestReady) ∈ wsL_law := inR_8 _ (.tail _ (.tail _ (.tail _ (.tail _ (.tail _ (.tail _ (.tail _ (.tail _ (.tail _ (.tail _ (.tail _ (.tail _ (.tail _ (.tail _ (.tail _ (.tail _ (.tail _ (.head _))))))))))))))))))
theorem wi_yX1_lowestReady : (Cond.instanceMethod yX1_lowestReady) ∈ wsL_law := inR_8 _ (.tail _ (.tail _ (.tail _ (.tail _ (.tail _ (.tail _ (.tail _ (.tail _ (.tail _ (.tail _ (.tail _ (.tail _ (.tail _ (.tail _ (.tail _ (.tail _ (.tail _ (.tail _ (.head _)))))))))))))))))))
theorem wse_yX1_lowestReady : (Cond.selects RX1 yX1_lowestReady yX1_lowestReady) ∈ wsL_law := inR_8 _ (.tail _ (.tail _ (.tail _ (.tail _ (.tail _ (.tail _ (.tail _ (.tail _ (.tail _ (.tail _ (.tail _ (.tail _ (.tail _ (.tail _ (.tail _ (.tail _ (.tail _ (.tail _ (.tail _ (.head _))))))))))))))))))))
theorem wc_yX1_lowestReady : (Cond.code yX1_lowestReady cX1_lowestReady 5 (some .int)) ∈ wsL_law := inR_8 _ (.tail _ (.tail _ (.tail _ (.tail _ (.tail _ (.tail _ (.tail _ (.tail _ (.tail _ (.tail _ (.tail _ (.tail _ (.tail _ (.tail _ (.tail _ (.tail _ (.tail _ (.tail _ (.tail _ (.tail _ (.head _)))))))))))))))))))))
theorem wm_RX3_91 : (Cond.methodLink RX3 91 yX3_startLastRun) ∈ wsL_law := inR_8 _ (.tail _ (.tail _ (.tail _ (.tail _ (.tail _ (.tail _ (.tail _ (.tail _ (.tail _ (.tail _ (.tail _ (.tail _ (.tail _ (.tail _ (.tail _ (.tail _ (.tail _ (.tail _ (.tail _ (.tail _ (.tail _ (.head _))))))))))))))))))))))
theorem wi_yX3_startLastRun : (Cond.instanceMethod yX3_startLastRun) ∈ wsL_law := inR_8 _ (.tail _ (.tail _ (.tail _ (.tail _ (.tail _ (.tail _ (.tail _ (.tail _ (.tail _ (.tail _ (.tail _ (.tail _ (.tail _ (.tail _ (.tail _ (.tail _ (.tail _ (.tail _ (.tail _ (.tail _ (.tail _ (.tail _ (.head _)))))))))))))))))))))))
theorem wse_yX3_startLastRun : (Cond.selects RX3 yX3_startLastRun yX3_startLastRun) ∈ wsL_law := inR_8 _ (.tail _ (.tail _ (.tail _ (.tail _ (.tail _ (.tail _ (.tail _ (.tail _ (.tail _ (.tail _ (.tail _ (.tail _ (.tail _ (.tail _ (.tail _ (.tail _ (.tail _ (.tail _ (.tail _ (.tail _ (.tail _ (.tail _ (.tail _ (.head _))))))))))))))))))))))))
theorem wc_yX3_startLastRun : (Cond.code yX3_startLastRun cX3_startLastRun 1 none) ∈ wsL_law := inR_9 _ (.head _)
theorem wf_RX3_97 : (Cond.fieldLink RX3 97 "ReactiveNotebook$State" "lastRunCount" "I") ∈ wsL_law := inR_9 _ (.tail _ (.head _))
theorem wm_RX3_94 : (Cond.methodLink RX3 94 yX3_walkRunOrder) ∈ wsL_law := inR_9 _ (.tail _ (.tail _ (.head _)))
theorem wi_yX3_walkRunOrder : (Cond.instanceMethod yX3_walkRunOrder) ∈ wsL_law := inR_9 _ (.tail _ (.tail _ (.tail _ (.head _))))
theorem wse_yX3_walkRunOrder : (Cond.selects RX3 yX3_walkRunOrder yX3_walkRunOrder) ∈ wsL_law := inR_9 _ (.tail _ (.tail _ (.tail _ (.tail _ (.head _)))))
theorem wc_yX3_walkRunOrder : (Cond.code yX3_walkRunOrder cX3_walkRunOrder 5 none) ∈ wsL_law := inR_9 _ (.tail _ (.tail _ (.tail _ (.tail _ (.tail _ (.head _))))))
theorem wf_RX3_139 : (Cond.fieldLink RX3 139 "ReactiveNotebook$Graph" "runnableCount" "I") ∈ wsL_law := inR_9 _ (.tail _ (.tail _ (.tail _ (.tail _ (.tail _ (.tail _ (.head _)))))))
theorem wf_RX3_142 : (Cond.fieldLink RX3 142 "ReactiveNotebook$Graph" "runOrder" "[I") ∈ wsL_law := inR_9 _ (.tail _ (.tail _ (.tail _ (.tail _ (.tail _ (.tail _ (.tail _ (.head _))))))))
theorem wm_RX3_184 : (Cond.methodLink RX3 184 yX3_isUpToDate) ∈ wsL_law := inR_9 _ (.tail _ (.tail _ (.tail _ (.tail _ (.tail _ (.tail _ (.tail _ (.tail _ (.head _)))))))))
theorem wi_yX3_isUpToDate : (Cond.instanceMethod yX3_isUpToDate) ∈ wsL_law := inR_9 _ (.tail _ (.tail _ (.tail _ (.tail _ (.tail _ (.tail _ (.tail _ (.tail _ (.tail _ (.head _))))))))))
theorem wse_yX3_isUpToDate : (Cond.selects RX3 yX3_isUpToDate yX3_isUpToDate) ∈ wsL_law := inR_9 _ (.tail _ (.tail _ (.tail _ (.tail _ (.tail _ (.tail _ (.tail _ (.tail _ (.tail _ (.tail _ (.head _)))))))))))
theorem wc_yX3_isUpToDate : (Cond.code yX3_isUpToDate cX3_isUpToDate 3 (some .boolean)) ∈ wsL_law := inR_9 _ (.tail _ (.tail _ (.tail _ (.tail _ (.tail _ (.tail _ (.tail _ (.tail _ (.tail _ (.tail _ (.tail _ (.head _))))))))))))
theorem wf_RX3_63 : (Cond.fieldLink RX3 63 "ReactiveNotebook$State" "cells" "[LReactiveNotebook$Cell;") ∈ wsL_law := inR_9 _ (.tail _ (.tail _ (.tail _ (.tail _ (.tail _ (.tail _ (.tail _ (.tail _ (.tail _ (.tail _ (.tail _ (.tail _ (.head _)))))))))))))
theorem wf_RX3_121 : (Cond.fieldLink RX3 121 "ReactiveNotebook$Cell" "version" "I") ∈ wsL_law := inR_9 _ (.tail _ (.tail _ (.tail _ (.tail _ (.tail _ (.tail _ (.tail _ (.tail _ (.tail _ (.tail _ (.tail _ (.tail _ (.tail _ (.head _))))))))))))))
theorem wf_RX3_130 : (Cond.fieldLink RX3 130 "ReactiveNotebook$Graph" "dependencies" "[I") ∈ wsL_law := inR_9 _ (.tail _ (.tail _ (.tail _ (.tail _ (.tail _ (.tail _ (.tail _ (.tail _ (.tail _ (.tail _ (.tail _ (.tail _ (.tail _ (.tail _ (.head _)))))))))))))))
theorem wf_RX3_194 : (Cond.fieldLink RX3 194 "ReactiveNotebook$Cell" "leftVersion" "I") ∈ wsL_law := inR_9 _ (.tail _ (.tail _ (.tail _ (.tail _ (.tail _ (.tail _ (.tail _ (.tail _ (.tail _ (.tail _ (.tail _ (.tail _ (.tail _ (.tail _ (.tail _ (.head _))))))))))))))))
theorem wf_RX3_170 : (Cond.fieldLink RX3 170 "ReactiveNotebook$Cell" "left" "I") ∈ wsL_law := inR_9 _ (.tail _ (.tail _ (.tail _ (.tail _ (.tail _ (.tail _ (.tail _ (.tail _ (.tail _ (.tail _ (.tail _ (.tail _ (.tail _ (.tail _ (.tail _ (.tail _ (.head _)))))))))))))))))
theorem wf_RX3_200 : (Cond.fieldLink RX3 200 "ReactiveNotebook$Cell" "rightVersion" "I") ∈ wsL_law := inR_9 _ (.tail _ (.tail _ (.tail _ (.tail _ (.tail _ (.tail _ (.tail _ (.tail _ (.tail _ (.tail _ (.tail _ (.tail _ (.tail _ (.tail _ (.tail _ (.tail _ (.tail _ (.head _))))))))))))))))))
theorem wf_RX3_173 : (Cond.fieldLink RX3 173 "ReactiveNotebook$Cell" "right" "I") ∈ wsL_law := inR_9 _ (.tail _ (.tail _ (.tail _ (.tail _ (.tail _ (.tail _ (.tail _ (.tail _ (.tail _ (.tail _ (.tail _ (.tail _ (.tail _ (.tail _ (.tail _ (.tail _ (.tail _ (.tail _ (.head _)))))))))))))))))))
theorem wm_RX3_197 : (Cond.methodLink RX3 197 yX3_inputVersion) ∈ wsL_law := inR_9 _ (.tail _ (.tail _ (.tail _ (.tail _ (.tail _ (.tail _ (.tail _ (.tail _ (.tail _ (.tail _ (.tail _ (.tail _ (.tail _ (.tail _ (.tail _ (.tail _ (.tail _ (.tail _ (.tail _ (.head _))))))))))))))))))))
theorem wi_yX3_inputVersion : (Cond.instanceMethod yX3_inputVersion) ∈ wsL_law := inR_9 _ (.tail _ (.tail _ (.tail _ (.tail _ (.tail _ (.tail _ (.tail _ (.tail _ (.tail _ (.tail _ (.tail _ (.tail _ (.tail _ (.tail _ (.tail _ (.tail _ (.tail _ (.tail _ (.tail _ (.tail _ (.head _)))))))))))))))))))))
theorem wse_yX3_inputVersion : (Cond.selects RX3 yX3_inputVersion yX3_inputVersion) ∈ wsL_law := inR_9 _ (.tail _ (.tail _ (.tail _ (.tail _ (.tail _ (.tail _ (.tail _ (.tail _ (.tail _ (.tail _ (.tail _ (.tail _ (.tail _ (.tail _ (.tail _ (.tail _ (.tail _ (.tail _ (.tail _ (.tail _ (.tail _ (.head _))))))))))))))))))))))
theorem wc_yX3_inputVersion : (Cond.code yX3_inputVersion cX3_inputVersion 3 (some .int)) ∈ wsL_law := inR_9 _ (.tail _ (.tail _ (.tail _ (.tail _ (.tail _ (.tail _ (.tail _ (.tail _ (.tail _ (.tail _ (.tail _ (.tail _ (.tail _ (.tail _ (.tail _ (.tail _ (.tail _ (.tail _ (.tail _ (.tail _ (.tail _ (.tail _ (.head _)))))))))))))))))))))))
theorem wm_RX3_219 : (Cond.methodLink RX3 219 yX1_soleDefinerOf) ∈ wsL_law := inR_9 _ (.tail _ (.tail _ (.tail _ (.tail _ (.tail _ (.tail _ (.tail _ (.tail _ (.tail _ (.tail _ (.tail _ (.tail _ (.tail _ (.tail _ (.tail _ (.tail _ (.tail _ (.tail _ (.tail _ (.tail _ (.tail _ (.tail _ (.tail _ (.head _))))))))))))))))))))))))
theorem wm_RX3_187 : (Cond.methodLink RX3 187 yX3_contains) ∈ wsL_law := inR_10 _ (.head _)
theorem wm_RX3_191 : (Cond.methodLink RX3 191 yX3_run) ∈ wsL_law := inR_10 _ (.tail _ (.head _))
theorem wi_yX3_run : (Cond.instanceMethod yX3_run) ∈ wsL_law := inR_10 _ (.tail _ (.tail _ (.head _)))
theorem wse_yX3_run : (Cond.selects RX3 yX3_run yX3_run) ∈ wsL_law := inR_10 _ (.tail _ (.tail _ (.tail _ (.head _))))
theorem wc_yX3_run : (Cond.code yX3_run cX3_run 4 none) ∈ wsL_law := inR_10 _ (.tail _ (.tail _ (.tail _ (.tail _ (.head _)))))
theorem wf_RX3_167 : (Cond.fieldLink RX3 167 "ReactiveNotebook$Cell" "operator" "I") ∈ wsL_law := inR_10 _ (.tail _ (.tail _ (.tail _ (.tail _ (.tail _ (.head _))))))
theorem wf_RX3_210 : (Cond.fieldLink RX3 210 "ReactiveNotebook$Cell" "result" "I") ∈ wsL_law := inR_10 _ (.tail _ (.tail _ (.tail _ (.tail _ (.tail _ (.tail _ (.head _)))))))
theorem wf_RX3_213 : (Cond.fieldLink RX3 213 "ReactiveNotebook$State" "greatestVersion" "I") ∈ wsL_law := inR_10 _ (.tail _ (.tail _ (.tail _ (.tail _ (.tail _ (.tail _ (.tail _ (.head _))))))))
theorem wf_RX3_124 : (Cond.fieldLink RX3 124 "ReactiveNotebook$Cell" "runs" "I") ∈ wsL_law := inR_10 _ (.tail _ (.tail _ (.tail _ (.tail _ (.tail _ (.tail _ (.tail _ (.tail _ (.head _)))))))))
theorem wm_RX3_203 : (Cond.methodLink RX3 203 yX3_inputResult) ∈ wsL_law := inR_10 _ (.tail _ (.tail _ (.tail _ (.tail _ (.tail _ (.tail _ (.tail _ (.tail _ (.tail _ (.head _))))))))))
theorem wi_yX3_inputResult : (Cond.instanceMethod yX3_inputResult) ∈ wsL_law := inR_10 _ (.tail _ (.tail _ (.tail _ (.tail _ (.tail _ (.tail _ (.tail _ (.tail _ (.tail _ (.tail _ (.head _)))))))))))
theorem wse_yX3_inputResult : (Cond.selects RX3 yX3_inputResult yX3_inputResult) ∈ wsL_law := inR_10 _ (.tail _ (.tail _ (.tail _ (.tail _ (.tail _ (.tail _ (.tail _ (.tail _ (.tail _ (.tail _ (.tail _ (.head _))))))))))))
theorem wc_yX3_inputResult : (Cond.code yX3_inputResult cX3_inputResult 3 (some .int)) ∈ wsL_law := inR_10 _ (.tail _ (.tail _ (.tail _ (.tail _ (.tail _ (.tail _ (.tail _ (.tail _ (.tail _ (.tail _ (.tail _ (.tail _ (.head _)))))))))))))
theorem wm_RX3_206 : (Cond.methodLink RX3 206 yX3_combine) ∈ wsL_law := inR_10 _ (.tail _ (.tail _ (.tail _ (.tail _ (.tail _ (.tail _ (.tail _ (.tail _ (.tail _ (.tail _ (.tail _ (.tail _ (.tail _ (.head _))))))))))))))
theorem wt_yX3_combine : (Cond.static yX3_combine) ∈ wsL_law := inR_10 _ (.tail _ (.tail _ (.tail _ (.tail _ (.tail _ (.tail _ (.tail _ (.tail _ (.tail _ (.tail _ (.tail _ (.tail _ (.tail _ (.tail _ (.head _)))))))))))))))
theorem wc_yX3_combine : (Cond.code yX3_combine cX3_combine 3 (some .int)) ∈ wsL_law := inR_10 _ (.tail _ (.tail _ (.tail _ (.tail _ (.tail _ (.tail _ (.tail _ (.tail _ (.tail _ (.tail _ (.tail _ (.tail _ (.tail _ (.tail _ (.tail _ (.head _))))))))))))))))
theorem wm_RX3_228 : (Cond.methodLink RX3 228 Lib.Math.max.name) ∈ wsL_law := inR_10 _ (.tail _ (.tail _ (.tail _ (.tail _ (.tail _ (.tail _ (.tail _ (.tail _ (.tail _ (.tail _ (.tail _ (.tail _ (.tail _ (.tail _ (.tail _ (.tail _ (.head _)))))))))))))))))
theorem wt_Lib_Math_max_name : (Cond.static Lib.Math.max.name) ∈ wsL_law := inR_10 _ (.tail _ (.tail _ (.tail _ (.tail _ (.tail _ (.tail _ (.tail _ (.tail _ (.tail _ (.tail _ (.tail _ (.tail _ (.tail _ (.tail _ (.tail _ (.tail _ (.tail _ (.head _))))))))))))))))))
theorem wn__java_lang_Math_ : (Cond.initialized "java/lang/Math") ∈ wsL_law := inR_10 _ (.tail _ (.tail _ (.tail _ (.tail _ (.tail _ (.tail _ (.tail _ (.tail _ (.tail _ (.tail _ (.tail _ (.tail _ (.tail _ (.tail _ (.tail _ (.tail _ (.tail _ (.tail _ (.head _)))))))))))))))))))
theorem wc_Lib_Math_max_name : (Cond.code Lib.Math.max.name Lib.Math.max.code 2 (some .int)) ∈ wsL_law := inR_10 _ (.tail _ (.tail _ (.tail _ (.tail _ (.tail _ (.tail _ (.tail _ (.tail _ (.tail _ (.tail _ (.tail _ (.tail _ (.tail _ (.tail _ (.tail _ (.tail _ (.tail _ (.tail _ (.tail _ (.head _))))))))))))))))))))
theorem wm_RX3_232 : (Cond.methodLink RX3 232 Lib.Math.min.name) ∈ wsL_law := inR_10 _ (.tail _ (.tail _ (.tail _ (.tail _ (.tail _ (.tail _ (.tail _ (.tail _ (.tail _ (.tail _ (.tail _ (.tail _ (.tail _ (.tail _ (.tail _ (.tail _ (.tail _ (.tail _ (.tail _ (.tail _ (.head _)))))))))))))))))))))
theorem wt_Lib_Math_min_name : (Cond.static Lib.Math.min.name) ∈ wsL_law := inR_10 _ (.tail _ (.tail _ (.tail _ (.tail _ (.tail _ (.tail _ (.tail _ (.tail _ (.tail _ (.tail _ (.tail _ (.tail _ (.tail _ (.tail _ (.tail _ (.tail _ (.tail _ (.tail _ (.tail _ (.tail _ (.tail _ (.head _))))))))))))))))))))))
theorem wc_Lib_Math_min_name : (Cond.code Lib.Math.min.name Lib.Math.min.code 2 (some .int)) ∈ wsL_law := inR_10 _ (.tail _ (.tail _ (.tail _ (.tail _ (.tail _ (.tail _ (.tail _ (.tail _ (.tail _ (.tail _ (.tail _ (.tail _ (.tail _ (.tail _ (.tail _ (.tail _ (.tail _ (.tail _ (.tail _ (.tail _ (.tail _ (.tail _ (.head _)))))))))))))))))))))))
theorem wm_RX3_222 : (Cond.methodLink RX3 222 yX3_isErrorResult) ∈ wsL_law := inR_10 _ (.tail _ (.tail _ (.tail _ (.tail _ (.tail _ (.tail _ (.tail _ (.tail _ (.tail _ (.tail _ (.tail _ (.tail _ (.tail _ (.tail _ (.tail _ (.tail _ (.tail _ (.tail _ (.tail _ (.tail _ (.tail _ (.tail _ (.tail _ (.head _))))))))))))))))))))))))
theorem wt_yX3_isErrorResult : (Cond.static yX3_isErrorResult) ∈ wsL_law := inR_11 _ (.head _)
theorem wc_yX3_isErrorResult : (Cond.code yX3_isErrorResult cX3_isErrorResult 1 (some .boolean)) ∈ wsL_law := inR_11 _ (.tail _ (.head _))
theorem wm_RX3_225 : (Cond.methodLink RX3 225 yX3_limit) ∈ wsL_law := inR_11 _ (.tail _ (.tail _ (.head _)))
theorem wt_yX3_limit : (Cond.static yX3_limit) ∈ wsL_law := inR_11 _ (.tail _ (.tail _ (.tail _ (.head _))))
theorem wc_yX3_limit : (Cond.code yX3_limit cX3_limit 1 (some .int)) ∈ wsL_law := inR_11 _ (.tail _ (.tail _ (.tail _ (.tail _ (.head _)))))
theorem wm_RX3_216 : (Cond.methodLink RX3 216 yX2_recordRun) ∈ wsL_law := inR_11 _ (.tail _ (.tail _ (.tail _ (.tail _ (.tail _ (.head _))))))
theorem wi_yX2_recordRun : (Cond.instanceMethod yX2_recordRun) ∈ wsL_law := inR_11 _ (.tail _ (.tail _ (.tail _ (.tail _ (.tail _ (.tail _ (.head _)))))))
theorem wse_yX2_recordRun : (Cond.selects RX2 yX2_recordRun yX2_recordRun) ∈ wsL_law := inR_11 _ (.tail _ (.tail _ (.tail _ (.tail _ (.tail _ (.tail _ (.tail _ (.head _))))))))
theorem wc_yX2_recordRun : (Cond.code yX2_recordRun cX2_recordRun 2 none) ∈ wsL_law := inR_11 _ (.tail _ (.tail _ (.tail _ (.tail _ (.tail _ (.tail _ (.tail _ (.tail _ (.head _)))))))))
theorem wm_RL_17 : (Cond.methodLink RL 17 yX4_addCell) ∈ wsL_law := inR_11 _ (.tail _ (.tail _ (.tail _ (.tail _ (.tail _ (.tail _ (.tail _ (.tail _ (.tail _ (.head _))))))))))
theorem wi_yX4_addCell : (Cond.instanceMethod yX4_addCell) ∈ wsL_law := inR_11 _ (.tail _ (.tail _ (.tail _ (.tail _ (.tail _ (.tail _ (.tail _ (.tail _ (.tail _ (.tail _ (.head _)))))))))))
theorem wse_yX4_addCell : (Cond.selects RX4 yX4_addCell yX4_addCell) ∈ wsL_law := inR_11 _ (.tail _ (.tail _ (.tail _ (.tail _ (.tail _ (.tail _ (.tail _ (.tail _ (.tail _ (.tail _ (.tail _ (.head _))))))))))))
theorem wc_yX4_addCell : (Cond.code yX4_addCell cX4_addCell 6 (some .int)) ∈ wsL_law := inR_11 _ (.tail _ (.tail _ (.tail _ (.tail _ (.tail _ (.tail _ (.tail _ (.tail _ (.tail _ (.tail _ (.tail _ (.tail _ (.head _)))))))))))))
theorem wm_RX4_121 : (Cond.methodLink RX4 121 yX4_isDefinition) ∈ wsL_law := inR_11 _ (.tail _ (.tail _ (.tail _ (.tail _ (.tail _ (.tail _ (.tail _ (.tail _ (.tail _ (.tail _ (.tail _ (.tail _ (.tail _ (.head _))))))))))))))
theorem wt_yX4_isDefinition : (Cond.static yX4_isDefinition) ∈ wsL_law := inR_11 _ (.tail _ (.tail _ (.tail _ (.tail _ (.tail _ (.tail _ (.tail _ (.tail _ (.tail _ (.tail _ (.tail _ (.tail _ (.tail _ (.tail _ (.head _)))))))))))))))
theorem wc_yX4_isDefinition : (Cond.code yX4_isDefinition cX4_isDefinition 4 (some .boolean)) ∈ wsL_law := inR_11 _ (.tail _ (.tail _ (.tail _ (.tail _ (.tail _ (.tail _ (.tail _ (.tail _ (.tail _ (.tail _ (.tail _ (.tail _ (.tail _ (.tail _ (.tail _ (.head _))))))))))))))))
theorem wm_RX4_42 : (Cond.methodLink RX4 42 yX4_in) ∈ wsL_law := inR_11 _ (.tail _ (.tail _ (.tail _ (.tail _ (.tail _ (.tail _ (.tail _ (.tail _ (.tail _ (.tail _ (.tail _ (.tail _ (.tail _ (.tail _ (.tail _ (.tail _ (.head _)))))))))))))))))
theorem wt_yX4_in : (Cond.static yX4_in) ∈ wsL_law := inR_11 _ (.tail _ (.tail _ (.tail _ (.tail _ (.tail _ (.tail _ (.tail _ (.tail _ (.tail _ (.tail _ (.tail _ (.tail _ (.tail _ (.tail _ (.tail _ (.tail _ (.tail _ (.head _))))))))))))))))))
theorem wc_yX4_in : (Cond.code yX4_in cX4_in 3 (some .boolean)) ∈ wsL_law := inR_11 _ (.tail _ (.tail _ (.tail _ (.tail _ (.tail _ (.tail _ (.tail _ (.tail _ (.tail _ (.tail _ (.tail _ (.tail _ (.tail _ (.tail _ (.tail _ (.tail _ (.tail _ (.tail _ (.head _)))))))))))))))))))
theorem wm_RX4_118 : (Cond.methodLink RX4 118 yX4_error) ∈ wsL_law := inR_11 _ (.tail _ (.tail _ (.tail _ (.tail _ (.tail _ (.tail _ (.tail _ (.tail _ (.tail _ (.tail _ (.tail _ (.tail _ (.tail _ (.tail _ (.tail _ (.tail _ (.tail _ (.tail _ (.tail _ (.head _))))))))))))))))))))
theorem wi_yX4_error : (Cond.instanceMethod yX4_error) ∈ wsL_law := inR_11 _ (.tail _ (.tail _ (.tail _ (.tail _ (.tail _ (.tail _ (.tail _ (.tail _ (.tail _ (.tail _ (.tail _ (.tail _ (.tail _ (.tail _ (.tail _ (.tail _ (.tail _ (.tail _ (.tail _ (.tail _ (.head _)))))))))))))))))))))
theorem wse_yX4_error : (Cond.selects RX4 yX4_error yX4_error) ∈ wsL_law := inR_11 _ (.tail _ (.tail _ (.tail _ (.tail _ (.tail _ (.tail _ (.tail _ (.tail _ (.tail _ (.tail _ (.tail _ (.tail _ (.tail _ (.tail _ (.tail _ (.tail _ (.tail _ (.tail _ (.tail _ (.tail _ (.tail _ (.head _))))))))))))))))))))))
theorem wc_yX4_error : (Cond.code yX4_error cX4_error 2 (some .int)) ∈ wsL_law := inR_11 _ (.tail _ (.tail _ (.tail _ (.tail _ (.tail _ (.tail _ (.tail _ (.tail _ (.tail _ (.tail _ (.tail _ (.tail _ (.tail _ (.tail _ (.tail _ (.tail _ (.tail _ (.tail _ (.tail _ (.tail _ (.tail _ (.tail _ (.head _)))))))))))))))))))))))
theorem wm_RX4_112 : (Cond.methodLink RX4 112 yX4_save) ∈ wsL_law := inR_11 _ (.tail _ (.tail _ (.tail _ (.tail _ (.tail _ (.tail _ (.tail _ (.tail _ (.tail _ (.tail _ (.tail _ (.tail _ (.tail _ (.tail _ (.tail _ (.tail _ (.tail _ (.tail _ (.tail _ (.tail _ (.tail _ (.tail _ (.tail _ (.head _))))))))))))))))))))))))
theorem wi_yX4_save : (Cond.instanceMethod yX4_save) ∈ wsL_law := inR_12 _ (.head _)
theorem wse_yX4_save : (Cond.selects RX4 yX4_save yX4_save) ∈ wsL_law := inR_12 _ (.tail _ (.head _))
theorem wc_yX4_save : (Cond.code yX4_save cX4_save 2 none) ∈ wsL_law := inR_12 _ (.tail _ (.tail _ (.head _)))
theorem wf_RX4_46 : (Cond.fieldLink RX4 46 "ReactiveNotebookModel" "states" "I") ∈ wsL_law := inR_12 _ (.tail _ (.tail _ (.tail _ (.head _))))
theorem wm_RX4_125 : (Cond.methodLink RX4 125 yX4_define) ∈ wsL_law := inR_12 _ (.tail _ (.tail _ (.tail _ (.tail _ (.head _)))))
theorem wi_yX4_define : (Cond.instanceMethod yX4_define) ∈ wsL_law := inR_12 _ (.tail _ (.tail _ (.tail _ (.tail _ (.tail _ (.head _))))))
theorem wse_yX4_define : (Cond.selects RX4 yX4_define yX4_define) ∈ wsL_law := inR_12 _ (.tail _ (.tail _ (.tail _ (.tail _ (.tail _ (.tail _ (.head _)))))))
theorem wc_yX4_define : (Cond.code yX4_define cX4_define 6 none) ∈ wsL_law := inR_12 _ (.tail _ (.tail _ (.tail _ (.tail _ (.tail _ (.tail _ (.tail _ (.head _))))))))
theorem wm_RX4_38 : (Cond.methodLink RX4 38 yX4_at) ∈ wsL_law := inR_12 _ (.tail _ (.tail _ (.tail _ (.tail _ (.tail _ (.tail _ (.tail _ (.tail _ (.head _)))))))))
theorem wt_yX4_at : (Cond.static yX4_at) ∈ wsL_law := inR_12 _ (.tail _ (.tail _ (.tail _ (.tail _ (.tail _ (.tail _ (.tail _ (.tail _ (.tail _ (.head _))))))))))
theorem wc_yX4_at : (Cond.code yX4_at cX4_at 2 (some .int)) ∈ wsL_law := inR_12 _ (.tail _ (.tail _ (.tail _ (.tail _ (.tail _ (.tail _ (.tail _ (.tail _ (.tail _ (.tail _ (.head _)))))))))))
theorem wm_RX4_129 : (Cond.methodLink RX4 129 yX4_runIfEager) ∈ wsL_law := inR_12 _ (.tail _ (.tail _ (.tail _ (.tail _ (.tail _ (.tail _ (.tail _ (.tail _ (.tail _ (.tail _ (.tail _ (.head _))))))))))))
theorem wi_yX4_runIfEager : (Cond.instanceMethod yX4_runIfEager) ∈ wsL_law := inR_12 _ (.tail _ (.tail _ (.tail _ (.tail _ (.tail _ (.tail _ (.tail _ (.tail _ (.tail _ (.tail _ (.tail _ (.tail _ (.head _)))))))))))))
theorem wse_yX4_runIfEager : (Cond.selects RX4 yX4_runIfEager yX4_runIfEager) ∈ wsL_law := inR_12 _ (.tail _ (.tail _ (.tail _ (.tail _ (.tail _ (.tail _ (.tail _ (.tail _ (.tail _ (.tail _ (.tail _ (.tail _ (.tail _ (.head _))))))))))))))
theorem wc_yX4_runIfEager : (Cond.code yX4_runIfEager cX4_runIfEager 1 none) ∈ wsL_law := inR_12 _ (.tail _ (.tail _ (.tail _ (.tail _ (.tail _ (.tail _ (.tail _ (.tail _ (.tail _ (.tail _ (.tail _ (.tail _ (.tail _ (.tail _ (.head _)))))))))))))))
theorem wm_RX4_109 : (Cond.methodLink RX4 109 yX4_runThrough) ∈ wsL_law := inR_12 _ (.tail _ (.tail _ (.tail _ (.tail _ (.tail _ (.tail _ (.tail _ (.tail _ (.tail _ (.tail _ (.tail _ (.tail _ (.tail _ (.tail _ (.tail _ (.head _))))))))))))))))
theorem wi_yX4_runThrough : (Cond.instanceMethod yX4_runThrough) ∈ wsL_law := inR_12 _ (.tail _ (.tail _ (.tail _ (.tail _ (.tail _ (.tail _ (.tail _ (.tail _ (.tail _ (.tail _ (.tail _ (.tail _ (.tail _ (.tail _ (.tail _ (.tail _ (.head _)))))))))))))))))
theorem wse_yX4_runThrough : (Cond.selects RX4 yX4_runThrough yX4_runThrough) ∈ wsL_law := inR_12 _ (.tail _ (.tail _ (.tail _ (.tail _ (.tail _ (.tail _ (.tail _ (.tail _ (.tail _ (.tail _ (.tail _ (.tail _ (.tail _ (.tail _ (.tail _ (.tail _ (.tail _ (.head _))))))))))))))))))
theorem wc_yX4_runThrough : (Cond.code yX4_runThrough cX4_runThrough 4 none) ∈ wsL_law := inR_12 _ (.tail _ (.tail _ (.tail _ (.tail _ (.tail _ (.tail _ (.tail _ (.tail _ (.tail _ (.tail _ (.tail _ (.tail _ (.tail _ (.tail _ (.tail _ (.tail _ (.tail _ (.tail _ (.head _)))))))))))))))))))
theorem wf_RX4_70 : (Cond.fieldLink RX4 70 "ReactiveNotebookModel" "orderLength" "I") ∈ wsL_law := inR_12 _ (.tail _ (.tail _ (.tail _ (.tail _ (.tail _ (.tail _ (.tail _ (.tail _ (.tail _ (.tail _ (.tail _ (.tail _ (.tail _ (.tail _ (.tail _ (.tail _ (.tail _ (.tail _ (.tail _ (.head _))))))))))))))))))))
theorem wm_RX4_102 : (Cond.methodLink RX4 102 yX4_derive) ∈ wsL_law := inR_12 _ (.tail _ (.tail _ (.tail _ (.tail _ (.tail _ (.tail _ (.tail _ (.tail _ (.tail _ (.tail _ (.tail _ (.tail _ (.tail _ (.tail _ (.tail _ (.tail _ (.tail _ (.tail _ (.tail _ (.tail _ (.head _)))))))))))))))))))))
theorem wi_yX4_derive : (Cond.instanceMethod yX4_derive) ∈ wsL_law := inR_12 _ (.tail _ (.tail _ (.tail _ (.tail _ (.tail _ (.tail _ (.tail _ (.tail _ (.tail _ (.tail _ (.tail _ (.tail _ (.tail _ (.tail _ (.tail _ (.tail _ (.tail _ (.tail _ (.tail _ (.tail _ (.tail _ (.head _))))))))))))))))))))))
theorem wse_yX4_derive : (Cond.selects RX4 yX4_derive yX4_derive) ∈ wsL_law := inR_12 _ (.tail _ (.tail _ (.tail _ (.tail _ (.tail _ (.tail _ (.tail _ (.tail _ (.tail _ (.tail _ (.tail _ (.tail _ (.tail _ (.tail _ (.tail _ (.tail _ (.tail _ (.tail _ (.tail _ (.tail _ (.tail _ (.tail _ (.head _)))))))))))))))))))))))
theorem wc_yX4_derive : (Cond.code yX4_derive cX4_derive 2 none) ∈ wsL_law := inR_12 _ (.tail _ (.tail _ (.tail _ (.tail _ (.tail _ (.tail _ (.tail _ (.tail _ (.tail _ (.tail _ (.tail _ (.tail _ (.tail _ (.tail _ (.tail _ (.tail _ (.tail _ (.tail _ (.tail _ (.tail _ (.tail _ (.tail _ (.tail _ (.head _))))))))))))))))))))))))
theorem wm_RX4_77 : (Cond.methodLink RX4 77 yX4_deriveDependencies) ∈ wsL_law := inR_13 _ (.head _)
theorem wi_yX4_deriveDependencies : (Cond.instanceMethod yX4_deriveDependencies) ∈ wsL_law := inR_13 _ (.tail _ (.head _))
theorem wse_yX4_deriveDependencies : (Cond.selects RX4 yX4_deriveDependencies yX4_deriveDependencies) ∈ wsL_law := inR_13 _ (.tail _ (.tail _ (.head _)))
theorem wc_yX4_deriveDependencies : (Cond.code yX4_deriveDependencies cX4_deriveDependencies 4 none) ∈ wsL_law := inR_13 _ (.tail _ (.tail _ (.tail _ (.head _))))
theorem wm_RX4_50 : (Cond.methodLink RX4 50 yX4_get) ∈ wsL_law := inR_13 _ (.tail _ (.tail _ (.tail _ (.tail _ (.head _)))))
theorem wi_yX4_get : (Cond.instanceMethod yX4_get) ∈ wsL_law := inR_13 _ (.tail _ (.tail _ (.tail _ (.tail _ (.tail _ (.head _))))))
theorem wse_yX4_get : (Cond.selects RX4 yX4_get yX4_get) ∈ wsL_law := inR_13 _ (.tail _ (.tail _ (.tail _ (.tail _ (.tail _ (.tail _ (.head _)))))))
theorem wc_yX4_get : (Cond.code yX4_get cX4_get 3 (some .int)) ∈ wsL_law := inR_13 _ (.tail _ (.tail _ (.tail _ (.tail _ (.tail _ (.tail _ (.tail _ (.head _))))))))
theorem wm_RX4_60 : (Cond.methodLink RX4 60 yX4_source) ∈ wsL_law := inR_13 _ (.tail _ (.tail _ (.tail _ (.tail _ (.tail _ (.tail _ (.tail _ (.tail _ (.head _)))))))))
theorem wi_yX4_source : (Cond.instanceMethod yX4_source) ∈ wsL_law := inR_13 _ (.tail _ (.tail _ (.tail _ (.tail _ (.tail _ (.tail _ (.tail _ (.tail _ (.tail _ (.head _))))))))))
theorem wse_yX4_source : (Cond.selects RX4 yX4_source yX4_source) ∈ wsL_law := inR_13 _ (.tail _ (.tail _ (.tail _ (.tail _ (.tail _ (.tail _ (.tail _ (.tail _ (.tail _ (.tail _ (.head _)))))))))))
theorem wc_yX4_source : (Cond.code yX4_source cX4_source 2 (some .int)) ∈ wsL_law := inR_13 _ (.tail _ (.tail _ (.tail _ (.tail _ (.tail _ (.tail _ (.tail _ (.tail _ (.tail _ (.tail _ (.tail _ (.head _))))))))))))
theorem wm_RX4_53 : (Cond.methodLink RX4 53 yX4_definersOf) ∈ wsL_law := inR_13 _ (.tail _ (.tail _ (.tail _ (.tail _ (.tail _ (.tail _ (.tail _ (.tail _ (.tail _ (.tail _ (.tail _ (.tail _ (.head _)))))))))))))
theorem wi_yX4_definersOf : (Cond.instanceMethod yX4_definersOf) ∈ wsL_law := inR_13 _ (.tail _ (.tail _ (.tail _ (.tail _ (.tail _ (.tail _ (.tail _ (.tail _ (.tail _ (.tail _ (.tail _ (.tail _ (.tail _ (.head _))))))))))))))
theorem wse_yX4_definersOf : (Cond.selects RX4 yX4_definersOf yX4_definersOf) ∈ wsL_law := inR_13 _ (.tail _ (.tail _ (.tail _ (.tail _ (.tail _ (.tail _ (.tail _ (.tail _ (.tail _ (.tail _ (.tail _ (.tail _ (.tail _ (.tail _ (.head _)))))))))))))))
theorem wc_yX4_definersOf : (Cond.code yX4_definersOf cX4_definersOf 4 (some .int)) ∈ wsL_law := inR_13 _ (.tail _ (.tail _ (.tail _ (.tail _ (.tail _ (.tail _ (.tail _ (.tail _ (.tail _ (.tail _ (.tail _ (.tail _ (.tail _ (.tail _ (.tail _ (.head _))))))))))))))))
theorem wm_RX4_57 : (Cond.methodLink RX4 57 yX4_only) ∈ wsL_law := inR_13 _ (.tail _ (.tail _ (.tail _ (.tail _ (.tail _ (.tail _ (.tail _ (.tail _ (.tail _ (.tail _ (.tail _ (.tail _ (.tail _ (.tail _ (.tail _ (.tail _ (.head _)))))))))))))))))
theorem wt_yX4_only : (Cond.static yX4_only) ∈ wsL_law := inR_13 _ (.tail _ (.tail _ (.tail _ (.tail _ (.tail _ (.tail _ (.tail _ (.tail _ (.tail _ (.tail _ (.tail _ (.tail _ (.tail _ (.tail _ (.tail _ (.tail _ (.tail _ (.head _))))))))))))))))))
theorem wc_yX4_only : (Cond.code yX4_only cX4_only 2 (some .int)) ∈ wsL_law := inR_13 _ (.tail _ (.tail _ (.tail _ (.tail _ (.tail _ (.tail _ (.tail _ (.tail _ (.tail _ (.tail _ (.tail _ (.tail _ (.tail _ (.tail _ (.tail _ (.tail _ (.tail _ (.tail _ (.head _)))))))))))))))))))
theorem wm_RX4_80 : (Cond.methodLink RX4 80 yX4_deriveErrors) ∈ wsL_law := inR_13 _ (.tail _ (.tail _ (.tail _ (.tail _ (.tail _ (.tail _ (.tail _ (.tail _ (.tail _ (.tail _ (.tail _ (.tail _ (.tail _ (.tail _ (.tail _ (.tail _ (.tail _ (.tail _ (.tail _ (.head _))))))))))))))))))))
theorem wi_yX4_deriveErrors : (Cond.instanceMethod yX4_deriveErrors) ∈ wsL_law := inR_13 _ (.tail _ (.tail _ (.tail _ (.tail _ (.tail _ (.tail _ (.tail _ (.tail _ (.tail _ (.tail _ (.tail _ (.tail _ (.tail _ (.tail _ (.tail _ (.tail _ (.tail _ (.tail _ (.tail _ (.tail _ (.head _)))))))))))))))))))))
theorem wse_yX4_deriveErrors : (Cond.selects RX4 yX4_deriveErrors yX4_deriveErrors) ∈ wsL_law := inR_13 _ (.tail _ (.tail _ (.tail _ (.tail _ (.tail _ (.tail _ (.tail _ (.tail _ (.tail _ (.tail _ (.tail _ (.tail _ (.tail _ (.tail _ (.tail _ (.tail _ (.tail _ (.tail _ (.tail _ (.tail _ (.tail _ (.head _))))))))))))))))))))))
theorem wc_yX4_deriveErrors : (Cond.code yX4_deriveErrors cX4_deriveErrors 4 none) ∈ wsL_law := inR_13 _ (.tail _ (.tail _ (.tail _ (.tail _ (.tail _ (.tail _ (.tail _ (.tail _ (.tail _ (.tail _ (.tail _ (.tail _ (.tail _ (.tail _ (.tail _ (.tail _ (.tail _ (.tail _ (.tail _ (.tail _ (.tail _ (.tail _ (.head _)))))))))))))))))))))))
theorem wm_RX4_63 : (Cond.methodLink RX4 63 yX4_isUndefined) ∈ wsL_law := inR_13 _ (.tail _ (.tail _ (.tail _ (.tail _ (.tail _ (.tail _ (.tail _ (.tail _ (.tail _ (.tail _ (.tail _ (.tail _ (.tail _ (.tail _ (.tail _ (.tail _ (.tail _ (.tail _ (.tail _ (.tail _ (.tail _ (.tail _ (.tail _ (.head _))))))))))))))))))))))))
theorem wi_yX4_isUndefined : (Cond.instanceMethod yX4_isUndefined) ∈ wsL_law := inR_14 _ (.head _)
theorem wse_yX4_isUndefined : (Cond.selects RX4 yX4_isUndefined yX4_isUndefined) ∈ wsL_law := inR_14 _ (.tail _ (.head _))
theorem wc_yX4_isUndefined : (Cond.code yX4_isUndefined cX4_isUndefined 2 (some .boolean)) ∈ wsL_law := inR_14 _ (.tail _ (.tail _ (.head _)))
theorem wm_RX4_67 : (Cond.methodLink RX4 67 yX4_isBad) ∈ wsL_law := inR_14 _ (.tail _ (.tail _ (.tail _ (.head _))))
theorem wi_yX4_isBad : (Cond.instanceMethod yX4_isBad) ∈ wsL_law := inR_14 _ (.tail _ (.tail _ (.tail _ (.tail _ (.head _)))))
theorem wse_yX4_isBad : (Cond.selects RX4 yX4_isBad yX4_isBad) ∈ wsL_law := inR_14 _ (.tail _ (.tail _ (.tail _ (.tail _ (.tail _ (.head _))))))
theorem wc_yX4_isBad : (Cond.code yX4_isBad cX4_isBad 4 (some .boolean)) ∈ wsL_law := inR_14 _ (.tail _ (.tail _ (.tail _ (.tail _ (.tail _ (.tail _ (.head _)))))))
theorem wm_RX4_83 : (Cond.methodLink RX4 83 yX4_deriveOrder) ∈ wsL_law := inR_14 _ (.tail _ (.tail _ (.tail _ (.tail _ (.tail _ (.tail _ (.tail _ (.head _))))))))
theorem wi_yX4_deriveOrder : (Cond.instanceMethod yX4_deriveOrder) ∈ wsL_law := inR_14 _ (.tail _ (.tail _ (.tail _ (.tail _ (.tail _ (.tail _ (.tail _ (.tail _ (.head _)))))))))
theorem wse_yX4_deriveOrder : (Cond.selects RX4 yX4_deriveOrder yX4_deriveOrder) ∈ wsL_law := inR_14 _ (.tail _ (.tail _ (.tail _ (.tail _ (.tail _ (.tail _ (.tail _ (.tail _ (.tail _ (.head _))))))))))
theorem wc_yX4_deriveOrder : (Cond.code yX4_deriveOrder cX4_deriveOrder 4 none) ∈ wsL_law := inR_14 _ (.tail _ (.tail _ (.tail _ (.tail _ (.tail _ (.tail _ (.tail _ (.tail _ (.tail _ (.tail _ (.head _)))))))))))
theorem wm_RX4_86 : (Cond.methodLink RX4 86 yX4_isFreshNow) ∈ wsL_law := inR_14 _ (.tail _ (.tail _ (.tail _ (.tail _ (.tail _ (.tail _ (.tail _ (.tail _ (.tail _ (.tail _ (.tail _ (.head _))))))))))))
theorem wi_yX4_isFreshNow : (Cond.instanceMethod yX4_isFreshNow) ∈ wsL_law := inR_14 _ (.tail _ (.tail _ (.tail _ (.tail _ (.tail _ (.tail _ (.tail _ (.tail _ (.tail _ (.tail _ (.tail _ (.tail _ (.head _)))))))))))))
theorem wse_yX4_isFreshNow : (Cond.selects RX4 yX4_isFreshNow yX4_isFreshNow) ∈ wsL_law := inR_14 _ (.tail _ (.tail _ (.tail _ (.tail _ (.tail _ (.tail _ (.tail _ (.tail _ (.tail _ (.tail _ (.tail _ (.tail _ (.tail _ (.head _))))))))))))))
theorem wc_yX4_isFreshNow : (Cond.code yX4_isFreshNow cX4_isFreshNow 2 (some .boolean)) ∈ wsL_law := inR_14 _ (.tail _ (.tail _ (.tail _ (.tail _ (.tail _ (.tail _ (.tail _ (.tail _ (.tail _ (.tail _ (.tail _ (.tail _ (.tail _ (.tail _ (.head _)))))))))))))))
theorem wm_RX4_73 : (Cond.methodLink RX4 73 yX4_isKnown) ∈ wsL_law := inR_14 _ (.tail _ (.tail _ (.tail _ (.tail _ (.tail _ (.tail _ (.tail _ (.tail _ (.tail _ (.tail _ (.tail _ (.tail _ (.tail _ (.tail _ (.tail _ (.head _))))))))))))))))
theorem wi_yX4_isKnown : (Cond.instanceMethod yX4_isKnown) ∈ wsL_law := inR_14 _ (.tail _ (.tail _ (.tail _ (.tail _ (.tail _ (.tail _ (.tail _ (.tail _ (.tail _ (.tail _ (.tail _ (.tail _ (.tail _ (.tail _ (.tail _ (.tail _ (.head _)))))))))))))))))
theorem wse_yX4_isKnown : (Cond.selects RX4 yX4_isKnown yX4_isKnown) ∈ wsL_law := inR_14 _ (.tail _ (.tail _ (.tail _ (.tail _ (.tail _ (.tail _ (.tail _ (.tail _ (.tail _ (.tail _ (.tail _ (.tail _ (.tail _ (.tail _ (.tail _ (.tail _ (.tail _ (.head _))))))))))))))))))
theorem wc_yX4_isKnown : (Cond.code yX4_isKnown cX4_isKnown 4 (some .boolean)) ∈ wsL_law := inR_14 _ (.tail _ (.tail _ (.tail _ (.tail _ (.tail _ (.tail _ (.tail _ (.tail _ (.tail _ (.tail _ (.tail _ (.tail _ (.tail _ (.tail _ (.tail _ (.tail _ (.tail _ (.tail _ (.head _)))))))))))))))))))
theorem wm_RX4_105 : (Cond.methodLink RX4 105 yX4_runOne) ∈ wsL_law := inR_14 _ (.tail _ (.tail _ (.tail _ (.tail _ (.tail _ (.tail _ (.tail _ (.tail _ (.tail _ (.tail _ (.tail _ (.tail _ (.tail _ (.tail _ (.tail _ (.tail _ (.tail _ (.tail _ (.tail _ (.head _))))))))))))))))))))
theorem wi_yX4_runOne : (Cond.instanceMethod yX4_runOne) ∈ wsL_law := inR_14 _ (.tail _ (.tail _ (.tail _ (.tail _ (.tail _ (.tail _ (.tail _ (.tail _ (.tail _ (.tail _ (.tail _ (.tail _ (.tail _ (.tail _ (.tail _ (.tail _ (.tail _ (.tail _ (.tail _ (.tail _ (.head _)))))))))))))))))))))
theorem wse_yX4_runOne : (Cond.selects RX4 yX4_runOne yX4_runOne) ∈ wsL_law := inR_14 _ (.tail _ (.tail _ (.tail _ (.tail _ (.tail _ (.tail _ (.tail _ (.tail _ (.tail _ (.tail _ (.tail _ (.tail _ (.tail _ (.tail _ (.tail _ (.tail _ (.tail _ (.tail _ (.tail _ (.tail _ (.tail _ (.head _))))))))))))))))))))))
theorem wc_yX4_runOne : (Cond.code yX4_runOne cX4_runOne 3 none) ∈ wsL_law := inR_14 _ (.tail _ (.tail _ (.tail _ (.tail _ (.tail _ (.tail _ (.tail _ (.tail _ (.tail _ (.tail _ (.tail _ (.tail _ (.tail _ (.tail _ (.tail _ (.tail _ (.tail _ (.tail _ (.tail _ (.tail _ (.tail _ (.tail _ (.head _)))))))))))))))))))))))
theorem wm_RX4_96 : (Cond.methodLink RX4 96 yX4_compute) ∈ wsL_law := inR_14 _ (.tail _ (.tail _ (.tail _ (.tail _ (.tail _ (.tail _ (.tail _ (.tail _ (.tail _ (.tail _ (.tail _ (.tail _ (.tail _ (.tail _ (.tail _ (.tail _ (.tail _ (.tail _ (.tail _ (.tail _ (.tail _ (.tail _ (.tail _ (.head _))))))))))))))))))))))))
theorem wi_yX4_compute : (Cond.instanceMethod yX4_compute) ∈ wsL_law := inR_15 _ (.head _)
theorem wse_yX4_compute : (Cond.selects RX4 yX4_compute yX4_compute) ∈ wsL_law := inR_15 _ (.tail _ (.head _))
theorem wc_yX4_compute : (Cond.code yX4_compute cX4_compute 6 (some .int)) ∈ wsL_law := inR_15 _ (.tail _ (.tail _ (.head _)))
theorem wm_RX4_89 : (Cond.methodLink RX4 89 yX4_operandValue) ∈ wsL_law := inR_15 _ (.tail _ (.tail _ (.tail _ (.head _))))
theorem wi_yX4_operandValue : (Cond.instanceMethod yX4_operandValue) ∈ wsL_law := inR_15 _ (.tail _ (.tail _ (.tail _ (.tail _ (.head _)))))
theorem wse_yX4_operandValue : (Cond.selects RX4 yX4_operandValue yX4_operandValue) ∈ wsL_law := inR_15 _ (.tail _ (.tail _ (.tail _ (.tail _ (.tail _ (.head _))))))
theorem wc_yX4_operandValue : (Cond.code yX4_operandValue cX4_operandValue 3 (some .int)) ∈ wsL_law := inR_15 _ (.tail _ (.tail _ (.tail _ (.tail _ (.tail _ (.tail _ (.head _)))))))
theorem wm_RX4_92 : (Cond.methodLink RX4 92 yX4_exact) ∈ wsL_law := inR_15 _ (.tail _ (.tail _ (.tail _ (.tail _ (.tail _ (.tail _ (.tail _ (.head _))))))))
theorem wi_yX4_exact : (Cond.instanceMethod yX4_exact) ∈ wsL_law := inR_15 _ (.tail _ (.tail _ (.tail _ (.tail _ (.tail _ (.tail _ (.tail _ (.tail _ (.head _)))))))))
theorem wse_yX4_exact : (Cond.selects RX4 yX4_exact yX4_exact) ∈ wsL_law := inR_15 _ (.tail _ (.tail _ (.tail _ (.tail _ (.tail _ (.tail _ (.tail _ (.tail _ (.tail _ (.head _))))))))))
theorem wc_yX4_exact : (Cond.code yX4_exact cX4_exact 4 (some .int)) ∈ wsL_law := inR_15 _ (.tail _ (.tail _ (.tail _ (.tail _ (.tail _ (.tail _ (.tail _ (.tail _ (.tail _ (.tail _ (.head _)))))))))))
theorem wm_RX4_99 : (Cond.methodLink RX4 99 yX4_versionOf) ∈ wsL_law := inR_15 _ (.tail _ (.tail _ (.tail _ (.tail _ (.tail _ (.tail _ (.tail _ (.tail _ (.tail _ (.tail _ (.tail _ (.head _))))))))))))
theorem wi_yX4_versionOf : (Cond.instanceMethod yX4_versionOf) ∈ wsL_law := inR_15 _ (.tail _ (.tail _ (.tail _ (.tail _ (.tail _ (.tail _ (.tail _ (.tail _ (.tail _ (.tail _ (.tail _ (.tail _ (.head _)))))))))))))
theorem wse_yX4_versionOf : (Cond.selects RX4 yX4_versionOf yX4_versionOf) ∈ wsL_law := inR_15 _ (.tail _ (.tail _ (.tail _ (.tail _ (.tail _ (.tail _ (.tail _ (.tail _ (.tail _ (.tail _ (.tail _ (.tail _ (.tail _ (.head _))))))))))))))
theorem wc_yX4_versionOf : (Cond.code yX4_versionOf cX4_versionOf 2 (some .int)) ∈ wsL_law := inR_15 _ (.tail _ (.tail _ (.tail _ (.tail _ (.tail _ (.tail _ (.tail _ (.tail _ (.tail _ (.tail _ (.tail _ (.tail _ (.tail _ (.tail _ (.head _)))))))))))))))
theorem wm_RL_18 : (Cond.methodLink RL 18 yX3_editCell) ∈ wsL_law := inR_15 _ (.tail _ (.tail _ (.tail _ (.tail _ (.tail _ (.tail _ (.tail _ (.tail _ (.tail _ (.tail _ (.tail _ (.tail _ (.tail _ (.tail _ (.tail _ (.head _))))))))))))))))
theorem wi_yX3_editCell : (Cond.instanceMethod yX3_editCell) ∈ wsL_law := inR_15 _ (.tail _ (.tail _ (.tail _ (.tail _ (.tail _ (.tail _ (.tail _ (.tail _ (.tail _ (.tail _ (.tail _ (.tail _ (.tail _ (.tail _ (.tail _ (.tail _ (.head _)))))))))))))))))
theorem wse_yX3_editCell : (Cond.selects RX3 yX3_editCell yX3_editCell) ∈ wsL_law := inR_15 _ (.tail _ (.tail _ (.tail _ (.tail _ (.tail _ (.tail _ (.tail _ (.tail _ (.tail _ (.tail _ (.tail _ (.tail _ (.tail _ (.tail _ (.tail _ (.tail _ (.tail _ (.head _))))))))))))))))))
theorem wc_yX3_editCell : (Cond.code yX3_editCell cX3_editCell 8 (some .int)) ∈ wsL_law := inR_15 _ (.tail _ (.tail _ (.tail _ (.tail _ (.tail _ (.tail _ (.tail _ (.tail _ (.tail _ (.tail _ (.tail _ (.tail _ (.tail _ (.tail _ (.tail _ (.tail _ (.tail _ (.tail _ (.head _)))))))))))))))))))
theorem wf_RX3_67 : (Cond.fieldLink RX3 67 "ReactiveNotebook$Cell" "variable" "I") ∈ wsL_law := inR_15 _ (.tail _ (.tail _ (.tail _ (.tail _ (.tail _ (.tail _ (.tail _ (.tail _ (.tail _ (.tail _ (.tail _ (.tail _ (.tail _ (.tail _ (.tail _ (.tail _ (.tail _ (.tail _ (.tail _ (.head _))))))))))))))))))))
theorem wm_RX3_59 : (Cond.methodLink RX3 59 yX3_isCell) ∈ wsL_law := inR_15 _ (.tail _ (.tail _ (.tail _ (.tail _ (.tail _ (.tail _ (.tail _ (.tail _ (.tail _ (.tail _ (.tail _ (.tail _ (.tail _ (.tail _ (.tail _ (.tail _ (.tail _ (.tail _ (.tail _ (.tail _ (.head _)))))))))))))))))))))
theorem wi_yX3_isCell : (Cond.instanceMethod yX3_isCell) ∈ wsL_law := inR_15 _ (.tail _ (.tail _ (.tail _ (.tail _ (.tail _ (.tail _ (.tail _ (.tail _ (.tail _ (.tail _ (.tail _ (.tail _ (.tail _ (.tail _ (.tail _ (.tail _ (.tail _ (.tail _ (.tail _ (.tail _ (.tail _ (.head _))))))))))))))))))))))
theorem wse_yX3_isCell : (Cond.selects RX3 yX3_isCell yX3_isCell) ∈ wsL_law := inR_15 _ (.tail _ (.tail _ (.tail _ (.tail _ (.tail _ (.tail _ (.tail _ (.tail _ (.tail _ (.tail _ (.tail _ (.tail _ (.tail _ (.tail _ (.tail _ (.tail _ (.tail _ (.tail _ (.tail _ (.tail _ (.tail _ (.tail _ (.head _)))))))))))))))))))))))
theorem wc_yX3_isCell : (Cond.code yX3_isCell cX3_isCell 2 (some .boolean)) ∈ wsL_law := inR_15 _ (.tail _ (.tail _ (.tail _ (.tail _ (.tail _ (.tail _ (.tail _ (.tail _ (.tail _ (.tail _ (.tail _ (.tail _ (.tail _ (.tail _ (.tail _ (.tail _ (.tail _ (.tail _ (.tail _ (.tail _ (.tail _ (.tail _ (.tail _ (.head _))))))))))))))))))))))))
theorem wm_RX3_72 : (Cond.methodLink RX3 72 yX0_define) ∈ wsL_law := inR_16 _ (.head _)
theorem wm_RL_22 : (Cond.methodLink RL 22 yX4_editCell) ∈ wsL_law := inR_16 _ (.tail _ (.head _))
theorem wi_yX4_editCell : (Cond.instanceMethod yX4_editCell) ∈ wsL_law := inR_16 _ (.tail _ (.tail _ (.head _)))
theorem wse_yX4_editCell : (Cond.selects RX4 yX4_editCell yX4_editCell) ∈ wsL_law := inR_16 _ (.tail _ (.tail _ (.tail _ (.head _))))
theorem wc_yX4_editCell : (Cond.code yX4_editCell cX4_editCell 7 (some .int)) ∈ wsL_law := inR_16 _ (.tail _ (.tail _ (.tail _ (.tail _ (.head _)))))
theorem wm_RX4_115 : (Cond.methodLink RX4 115 yX4_isCell) ∈ wsL_law := inR_16 _ (.tail _ (.tail _ (.tail _ (.tail _ (.tail _ (.head _))))))
theorem wi_yX4_isCell : (Cond.instanceMethod yX4_isCell) ∈ wsL_law := inR_16 _ (.tail _ (.tail _ (.tail _ (.tail _ (.tail _ (.tail _ (.head _)))))))
theorem wse_yX4_isCell : (Cond.selects RX4 yX4_isCell yX4_isCell) ∈ wsL_law := inR_16 _ (.tail _ (.tail _ (.tail _ (.tail _ (.tail _ (.tail _ (.tail _ (.head _))))))))
theorem wc_yX4_isCell : (Cond.code yX4_isCell cX4_isCell 2 (some .boolean)) ∈ wsL_law := inR_16 _ (.tail _ (.tail _ (.tail _ (.tail _ (.tail _ (.tail _ (.tail _ (.tail _ (.head _)))))))))
theorem wm_RL_23 : (Cond.methodLink RL 23 yX3_deleteCell) ∈ wsL_law := inR_16 _ (.tail _ (.tail _ (.tail _ (.tail _ (.tail _ (.tail _ (.tail _ (.tail _ (.tail _ (.head _))))))))))
theorem wi_yX3_deleteCell : (Cond.instanceMethod yX3_deleteCell) ∈ wsL_law := inR_16 _ (.tail _ (.tail _ (.tail _ (.tail _ (.tail _ (.tail _ (.tail _ (.tail _ (.tail _ (.tail _ (.head _)))))))))))
theorem wse_yX3_deleteCell : (Cond.selects RX3 yX3_deleteCell yX3_deleteCell) ∈ wsL_law := inR_16 _ (.tail _ (.tail _ (.tail _ (.tail _ (.tail _ (.tail _ (.tail _ (.tail _ (.tail _ (.tail _ (.tail _ (.head _))))))))))))
theorem wc_yX3_deleteCell : (Cond.code yX3_deleteCell cX3_deleteCell 2 (some .int)) ∈ wsL_law := inR_16 _ (.tail _ (.tail _ (.tail _ (.tail _ (.tail _ (.tail _ (.tail _ (.tail _ (.tail _ (.tail _ (.tail _ (.tail _ (.head _)))))))))))))
theorem wm_RX3_75 : (Cond.methodLink RX3 75 yX2_remove) ∈ wsL_law := inR_16 _ (.tail _ (.tail _ (.tail _ (.tail _ (.tail _ (.tail _ (.tail _ (.tail _ (.tail _ (.tail _ (.tail _ (.tail _ (.tail _ (.head _))))))))))))))
theorem wi_yX2_remove : (Cond.instanceMethod yX2_remove) ∈ wsL_law := inR_16 _ (.tail _ (.tail _ (.tail _ (.tail _ (.tail _ (.tail _ (.tail _ (.tail _ (.tail _ (.tail _ (.tail _ (.tail _ (.tail _ (.tail _ (.head _)))))))))))))))
theorem wse_yX2_remove : (Cond.selects RX2 yX2_remove yX2_remove) ∈ wsL_law := inR_16 _ (.tail _ (.tail _ (.tail _ (.tail _ (.tail _ (.tail _ (.tail _ (.tail _ (.tail _ (.tail _ (.tail _ (.tail _ (.tail _ (.tail _ (.tail _ (.head _))))))))))))))))
theorem wc_yX2_remove : (Cond.code yX2_remove cX2_remove 2 none) ∈ wsL_law := inR_16 _ (.tail _ (.tail _ (.tail _ (.tail _ (.tail _ (.tail _ (.tail _ (.tail _ (.tail _ (.tail _ (.tail _ (.tail _ (.tail _ (.tail _ (.tail _ (.tail _ (.head _)))))))))))))))))
theorem wm_RX2_49 : (Cond.methodLink RX2 49 yX2_move) ∈ wsL_law := inR_16 _ (.tail _ (.tail _ (.tail _ (.tail _ (.tail _ (.tail _ (.tail _ (.tail _ (.tail _ (.tail _ (.tail _ (.tail _ (.tail _ (.tail _ (.tail _ (.tail _ (.tail _ (.head _))))))))))))))))))
theorem wi_yX2_move : (Cond.instanceMethod yX2_move) ∈ wsL_law := inR_16 _ (.tail _ (.tail _ (.tail _ (.tail _ (.tail _ (.tail _ (.tail _ (.tail _ (.tail _ (.tail _ (.tail _ (.tail _ (.tail _ (.tail _ (.tail _ (.tail _ (.tail _ (.tail _ (.head _)))))))))))))))))))
theorem wse_yX2_move : (Cond.selects RX2 yX2_move yX2_move) ∈ wsL_law := inR_16 _ (.tail _ (.tail _ (.tail _ (.tail _ (.tail _ (.tail _ (.tail _ (.tail _ (.tail _ (.tail _ (.tail _ (.tail _ (.tail _ (.tail _ (.tail _ (.tail _ (.tail _ (.tail _ (.tail _ (.head _))))))))))))))))))))
theorem wc_yX2_move : (Cond.code yX2_move cX2_move 5 none) ∈ wsL_law := inR_16 _ (.tail _ (.tail _ (.tail _ (.tail _ (.tail _ (.tail _ (.tail _ (.tail _ (.tail _ (.tail _ (.tail _ (.tail _ (.tail _ (.tail _ (.tail _ (.tail _ (.tail _ (.tail _ (.tail _ (.tail _ (.head _)))))))))))))))))))))
theorem wm_RL_27 : (Cond.methodLink RL 27 yX4_deleteCell) ∈ wsL_law := inR_16 _ (.tail _ (.tail _ (.tail _ (.tail _ (.tail _ (.tail _ (.tail _ (.tail _ (.tail _ (.tail _ (.tail _ (.tail _ (.tail _ (.tail _ (.tail _ (.tail _ (.tail _ (.tail _ (.tail _ (.tail _ (.tail _ (.head _))))))))))))))))))))))
theorem wi_yX4_deleteCell : (Cond.instanceMethod yX4_deleteCell) ∈ wsL_law := inR_16 _ (.tail _ (.tail _ (.tail _ (.tail _ (.tail _ (.tail _ (.tail _ (.tail _ (.tail _ (.tail _ (.tail _ (.tail _ (.tail _ (.tail _ (.tail _ (.tail _ (.tail _ (.tail _ (.tail _ (.tail _ (.tail _ (.tail _ (.head _)))))))))))))))))))))))
theorem wse_yX4_deleteCell : (Cond.selects RX4 yX4_deleteCell yX4_deleteCell) ∈ wsL_law := inR_16 _ (.tail _ (.tail _ (.tail _ (.tail _ (.tail _ (.tail _ (.tail _ (.tail _ (.tail _ (.tail _ (.tail _ (.tail _ (.tail _ (.tail _ (.tail _ (.tail _ (.tail _ (.tail _ (.tail _ (.tail _ (.tail _ (.tail _ (.tail _ (.head _))))))))))))))))))))))))
theorem wc_yX4_deleteCell : (Cond.code yX4_deleteCell cX4_deleteCell 3 (some .int)) ∈ wsL_law := inR_17 _ (.head _)
theorem wm_RX4_132 : (Cond.methodLink RX4 132 yX4_copyCell) ∈ wsL_law := inR_17 _ (.tail _ (.head _))
theorem wi_yX4_copyCell : (Cond.instanceMethod yX4_copyCell) ∈ wsL_law := inR_17 _ (.tail _ (.tail _ (.head _)))
theorem wse_yX4_copyCell : (Cond.selects RX4 yX4_copyCell yX4_copyCell) ∈ wsL_law := inR_17 _ (.tail _ (.tail _ (.tail _ (.head _))))
theorem wc_yX4_copyCell : (Cond.code yX4_copyCell cX4_copyCell 4 none) ∈ wsL_law := inR_17 _ (.tail _ (.tail _ (.tail _ (.tail _ (.head _)))))
theorem wm_RL_28 : (Cond.methodLink RL 28 yX3_moveCell) ∈ wsL_law := inR_17 _ (.tail _ (.tail _ (.tail _ (.tail _ (.tail _ (.head _))))))
theorem wi_yX3_moveCell : (Cond.instanceMethod yX3_moveCell) ∈ wsL_law := inR_17 _ (.tail _ (.tail _ (.tail _ (.tail _ (.tail _ (.tail _ (.head _)))))))
theorem wse_yX3_moveCell : (Cond.selects RX3 yX3_moveCell yX3_moveCell) ∈ wsL_law := inR_17 _ (.tail _ (.tail _ (.tail _ (.tail _ (.tail _ (.tail _ (.tail _ (.head _))))))))
theorem wc_yX3_moveCell : (Cond.code yX3_moveCell cX3_moveCell 3 (some .int)) ∈ wsL_law := inR_17 _ (.tail _ (.tail _ (.tail _ (.tail _ (.tail _ (.tail _ (.tail _ (.tail _ (.head _)))))))))
theorem wm_RX3_83 : (Cond.methodLink RX3 83 Lib.Math.abs.name) ∈ wsL_law := inR_17 _ (.tail _ (.tail _ (.tail _ (.tail _ (.tail _ (.tail _ (.tail _ (.tail _ (.tail _ (.head _))))))))))
theorem wt_Lib_Math_abs_name : (Cond.static Lib.Math.abs.name) ∈ wsL_law := inR_17 _ (.tail _ (.tail _ (.tail _ (.tail _ (.tail _ (.tail _ (.tail _ (.tail _ (.tail _ (.tail _ (.head _)))))))))))
theorem wc_Lib_Math_abs_name : (Cond.code Lib.Math.abs.name Lib.Math.abs.code 1 (some .int)) ∈ wsL_law := inR_17 _ (.tail _ (.tail _ (.tail _ (.tail _ (.tail _ (.tail _ (.tail _ (.tail _ (.tail _ (.tail _ (.tail _ (.head _))))))))))))
theorem wm_RX3_79 : (Cond.methodLink RX3 79 yX2_move) ∈ wsL_law := inR_17 _ (.tail _ (.tail _ (.tail _ (.tail _ (.tail _ (.tail _ (.tail _ (.tail _ (.tail _ (.tail _ (.tail _ (.tail _ (.head _)))))))))))))
theorem wm_RL_32 : (Cond.methodLink RL 32 yX4_moveCell) ∈ wsL_law := inR_17 _ (.tail _ (.tail _ (.tail _ (.tail _ (.tail _ (.tail _ (.tail _ (.tail _ (.tail _ (.tail _ (.tail _ (.tail _ (.tail _ (.head _))))))))))))))
theorem wi_yX4_moveCell : (Cond.instanceMethod yX4_moveCell) ∈ wsL_law := inR_17 _ (.tail _ (.tail _ (.tail _ (.tail _ (.tail _ (.tail _ (.tail _ (.tail _ (.tail _ (.tail _ (.tail _ (.tail _ (.tail _ (.tail _ (.head _)))))))))))))))
theorem wse_yX4_moveCell : (Cond.selects RX4 yX4_moveCell yX4_moveCell) ∈ wsL_law := inR_17 _ (.tail _ (.tail _ (.tail _ (.tail _ (.tail _ (.tail _ (.tail _ (.tail _ (.tail _ (.tail _ (.tail _ (.tail _ (.tail _ (.tail _ (.tail _ (.head _))))))))))))))))
theorem wc_yX4_moveCell : (Cond.code yX4_moveCell cX4_moveCell 6 (some .int)) ∈ wsL_law := inR_17 _ (.tail _ (.tail _ (.tail _ (.tail _ (.tail _ (.tail _ (.tail _ (.tail _ (.tail _ (.tail _ (.tail _ (.tail _ (.tail _ (.tail _ (.tail _ (.tail _ (.head _)))))))))))))))))
theorem wm_RL_33 : (Cond.methodLink RL 33 yX3_setEager) ∈ wsL_law := inR_17 _ (.tail _ (.tail _ (.tail _ (.tail _ (.tail _ (.tail _ (.tail _ (.tail _ (.tail _ (.tail _ (.tail _ (.tail _ (.tail _ (.tail _ (.tail _ (.tail _ (.tail _ (.head _))))))))))))))))))
theorem wi_yX3_setEager : (Cond.instanceMethod yX3_setEager) ∈ wsL_law := inR_17 _ (.tail _ (.tail _ (.tail _ (.tail _ (.tail _ (.tail _ (.tail _ (.tail _ (.tail _ (.tail _ (.tail _ (.tail _ (.tail _ (.tail _ (.tail _ (.tail _ (.tail _ (.tail _ (.head _)))))))))))))))))))
theorem wse_yX3_setEager : (Cond.selects RX3 yX3_setEager yX3_setEager) ∈ wsL_law := inR_17 _ (.tail _ (.tail _ (.tail _ (.tail _ (.tail _ (.tail _ (.tail _ (.tail _ (.tail _ (.tail _ (.tail _ (.tail _ (.tail _ (.tail _ (.tail _ (.tail _ (.tail _ (.tail _ (.tail _ (.head _))))))))))))))))))))
theorem wc_yX3_setEager : (Cond.code yX3_setEager cX3_setEager 3 (some .int)) ∈ wsL_law := inR_17 _ (.tail _ (.tail _ (.tail _ (.tail _ (.tail _ (.tail _ (.tail _ (.tail _ (.tail _ (.tail _ (.tail _ (.tail _ (.tail _ (.tail _ (.tail _ (.tail _ (.tail _ (.tail _ (.tail _ (.tail _ (.head _)))))))))))))))))))))
theorem wm_RL_36 : (Cond.methodLink RL 36 yX4_setEager) ∈ wsL_law := inR_17 _ (.tail _ (.tail _ (.tail _ (.tail _ (.tail _ (.tail _ (.tail _ (.tail _ (.tail _ (.tail _ (.tail _ (.tail _ (.tail _ (.tail _ (.tail _ (.tail _ (.tail _ (.tail _ (.tail _ (.tail _ (.tail _ (.head _))))))))))))))))))))))
theorem wi_yX4_setEager : (Cond.instanceMethod yX4_setEager) ∈ wsL_law := inR_17 _ (.tail _ (.tail _ (.tail _ (.tail _ (.tail _ (.tail _ (.tail _ (.tail _ (.tail _ (.tail _ (.tail _ (.tail _ (.tail _ (.tail _ (.tail _ (.tail _ (.tail _ (.tail _ (.tail _ (.tail _ (.tail _ (.tail _ (.head _)))))))))))))))))))))))
theorem wse_yX4_setEager : (Cond.selects RX4 yX4_setEager yX4_setEager) ∈ wsL_law := inR_17 _ (.tail _ (.tail _ (.tail _ (.tail _ (.tail _ (.tail _ (.tail _ (.tail _ (.tail _ (.tail _ (.tail _ (.tail _ (.tail _ (.tail _ (.tail _ (.tail _ (.tail _ (.tail _ (.tail _ (.tail _ (.tail _ (.tail _ (.tail _ (.head _))))))))))))))))))))))))
theorem wc_yX4_setEager : (Cond.code yX4_setEager cX4_setEager 3 (some .int)) ∈ wsL_law := inR_18 _ (.head _)
theorem wm_RL_37 : (Cond.methodLink RL 37 yX3_runStale) ∈ wsL_law := inR_18 _ (.tail _ (.head _))
theorem wi_yX3_runStale : (Cond.instanceMethod yX3_runStale) ∈ wsL_law := inR_18 _ (.tail _ (.tail _ (.head _)))
theorem wse_yX3_runStale : (Cond.selects RX3 yX3_runStale yX3_runStale) ∈ wsL_law := inR_18 _ (.tail _ (.tail _ (.tail _ (.head _))))
theorem wc_yX3_runStale : (Cond.code yX3_runStale cX3_runStale 1 (some .int)) ∈ wsL_law := inR_18 _ (.tail _ (.tail _ (.tail _ (.tail _ (.head _)))))
theorem wm_RL_41 : (Cond.methodLink RL 41 yX4_runStale) ∈ wsL_law := inR_18 _ (.tail _ (.tail _ (.tail _ (.tail _ (.tail _ (.head _))))))
theorem wi_yX4_runStale : (Cond.instanceMethod yX4_runStale) ∈ wsL_law := inR_18 _ (.tail _ (.tail _ (.tail _ (.tail _ (.tail _ (.tail _ (.head _)))))))
theorem wse_yX4_runStale : (Cond.selects RX4 yX4_runStale yX4_runStale) ∈ wsL_law := inR_18 _ (.tail _ (.tail _ (.tail _ (.tail _ (.tail _ (.tail _ (.tail _ (.head _))))))))
theorem wc_yX4_runStale : (Cond.code yX4_runStale cX4_runStale 1 (some .int)) ∈ wsL_law := inR_18 _ (.tail _ (.tail _ (.tail _ (.tail _ (.tail _ (.tail _ (.tail _ (.tail _ (.head _)))))))))
theorem wm_RL_42 : (Cond.methodLink RL 42 yX3_runCell) ∈ wsL_law := inR_18 _ (.tail _ (.tail _ (.tail _ (.tail _ (.tail _ (.tail _ (.tail _ (.tail _ (.tail _ (.head _))))))))))
theorem wi_yX3_runCell : (Cond.instanceMethod yX3_runCell) ∈ wsL_law := inR_18 _ (.tail _ (.tail _ (.tail _ (.tail _ (.tail _ (.tail _ (.tail _ (.tail _ (.tail _ (.tail _ (.head _)))))))))))
theorem wse_yX3_runCell : (Cond.selects RX3 yX3_runCell yX3_runCell) ∈ wsL_law := inR_18 _ (.tail _ (.tail _ (.tail _ (.tail _ (.tail _ (.tail _ (.tail _ (.tail _ (.tail _ (.tail _ (.tail _ (.head _))))))))))))
theorem wc_yX3_runCell : (Cond.code yX3_runCell cX3_runCell 2 (some .int)) ∈ wsL_law := inR_18 _ (.tail _ (.tail _ (.tail _ (.tail _ (.tail _ (.tail _ (.tail _ (.tail _ (.tail _ (.tail _ (.tail _ (.tail _ (.head _)))))))))))))
theorem wf_RX3_100 : (Cond.fieldLink RX3 100 "ReactiveNotebook$Graph" "staticErrors" "[I") ∈ wsL_law := inR_18 _ (.tail _ (.tail _ (.tail _ (.tail _ (.tail _ (.tail _ (.tail _ (.tail _ (.tail _ (.tail _ (.tail _ (.tail _ (.tail _ (.head _))))))))))))))
theorem wf_RX3_103 : (Cond.fieldLink RX3 103 "ReactiveNotebook$Graph" "allDependencies" "[I") ∈ wsL_law := inR_18 _ (.tail _ (.tail _ (.tail _ (.tail _ (.tail _ (.tail _ (.tail _ (.tail _ (.tail _ (.tail _ (.tail _ (.tail _ (.tail _ (.tail _ (.head _)))))))))))))))
theorem wm_RL_45 : (Cond.methodLink RL 45 yX4_runCell) ∈ wsL_law := inR_18 _ (.tail _ (.tail _ (.tail _ (.tail _ (.tail _ (.tail _ (.tail _ (.tail _ (.tail _ (.tail _ (.tail _ (.tail _ (.tail _ (.tail _ (.tail _ (.head _))))))))))))))))
theorem wi_yX4_runCell : (Cond.instanceMethod yX4_runCell) ∈ wsL_law := inR_18 _ (.tail _ (.tail _ (.tail _ (.tail _ (.tail _ (.tail _ (.tail _ (.tail _ (.tail _ (.tail _ (.tail _ (.tail _ (.tail _ (.tail _ (.tail _ (.tail _ (.head _)))))))))))))))))
theorem wse_yX4_runCell : (Cond.selects RX4 yX4_runCell yX4_runCell) ∈ wsL_law := inR_18 _ (.tail _ (.tail _ (.tail _ (.tail _ (.tail _ (.tail _ (.tail _ (.tail _ (.tail _ (.tail _ (.tail _ (.tail _ (.tail _ (.tail _ (.tail _ (.tail _ (.tail _ (.head _))))))))))))))))))
theorem wc_yX4_runCell : (Cond.code yX4_runCell cX4_runCell 2 (some .int)) ∈ wsL_law := inR_18 _ (.tail _ (.tail _ (.tail _ (.tail _ (.tail _ (.tail _ (.tail _ (.tail _ (.tail _ (.tail _ (.tail _ (.tail _ (.tail _ (.tail _ (.tail _ (.tail _ (.tail _ (.tail _ (.head _)))))))))))))))))))
theorem wm_RL_46 : (Cond.methodLink RL 46 yX3_lastRunCount) ∈ wsL_law := inR_18 _ (.tail _ (.tail _ (.tail _ (.tail _ (.tail _ (.tail _ (.tail _ (.tail _ (.tail _ (.tail _ (.tail _ (.tail _ (.tail _ (.tail _ (.tail _ (.tail _ (.tail _ (.tail _ (.tail _ (.head _))))))))))))))))))))
theorem wi_yX3_lastRunCount : (Cond.instanceMethod yX3_lastRunCount) ∈ wsL_law := inR_18 _ (.tail _ (.tail _ (.tail _ (.tail _ (.tail _ (.tail _ (.tail _ (.tail _ (.tail _ (.tail _ (.tail _ (.tail _ (.tail _ (.tail _ (.tail _ (.tail _ (.tail _ (.tail _ (.tail _ (.tail _ (.head _)))))))))))))))))))))
theorem wse_yX3_lastRunCount : (Cond.selects RX3 yX3_lastRunCount yX3_lastRunCount) ∈ wsL_law := inR_18 _ (.tail _ (.tail _ (.tail _ (.tail _ (.tail _ (.tail _ (.tail _ (.tail _ (.tail _ (.tail _ (.tail _ (.tail _ (.tail _ (.tail _ (.tail _ (.tail _ (.tail _ (.tail _ (.tail _ (.tail _ (.tail _ (.head _))))))))))))))))))))))
theorem wc_yX3_lastRunCount : (Cond.code yX3_lastRunCount cX3_lastRunCount 1 (some .int)) ∈ wsL_law := inR_18 _ (.tail _ (.tail _ (.tail _ (.tail _ (.tail _ (.tail _ (.tail _ (.tail _ (.tail _ (.tail _ (.tail _ (.tail _ (.tail _ (.tail _ (.tail _ (.tail _ (.tail _ (.tail _ (.tail _ (.tail _ (.tail _ (.tail _ (.head _)))))))))))))))))))))))
theorem wm_RL_49 : (Cond.methodLink RL 49 yX4_lastRunCount) ∈ wsL_law := inR_18 _ (.tail _ (.tail _ (.tail _ (.tail _ (.tail _ (.tail _ (.tail _ (.tail _ (.tail _ (.tail _ (.tail _ (.tail _ (.tail _ (.tail _ (.tail _ (.tail _ (.tail _ (.tail _ (.tail _ (.tail _ (.tail _ (.tail _ (.tail _ (.head _))))))))))))))))))))))))
theorem wi_yX4_lastRunCount : (Cond.instanceMethod yX4_lastRunCount) ∈ wsL_law := inR_19 _ (.head _)
theorem wse_yX4_lastRunCount : (Cond.selects RX4 yX4_lastRunCount yX4_lastRunCount) ∈ wsL_law := inR_19 _ (.tail _ (.head _))
theorem wc_yX4_lastRunCount : (Cond.code yX4_lastRunCount cX4_lastRunCount 1 (some .int)) ∈ wsL_law := inR_19 _ (.tail _ (.tail _ (.head _)))
theorem wm_RL_50 : (Cond.methodLink RL 50 yX3_lastRun) ∈ wsL_law := inR_19 _ (.tail _ (.tail _ (.tail _ (.head _))))
theorem wi_yX3_lastRun : (Cond.instanceMethod yX3_lastRun) ∈ wsL_law := inR_19 _ (.tail _ (.tail _ (.tail _ (.tail _ (.head _)))))
theorem wse_yX3_lastRun : (Cond.selects RX3 yX3_lastRun yX3_lastRun) ∈ wsL_law := inR_19 _ (.tail _ (.tail _ (.tail _ (.tail _ (.tail _ (.head _))))))
theorem wc_yX3_lastRun : (Cond.code yX3_lastRun cX3_lastRun 2 (some .int)) ∈ wsL_law := inR_19 _ (.tail _ (.tail _ (.tail _ (.tail _ (.tail _ (.tail _ (.head _)))))))
theorem wf_RX3_106 : (Cond.fieldLink RX3 106 "ReactiveNotebook$State" "lastRunCells" "[I") ∈ wsL_law := inR_19 _ (.tail _ (.tail _ (.tail _ (.tail _ (.tail _ (.tail _ (.tail _ (.head _))))))))
theorem wm_RL_53 : (Cond.methodLink RL 53 yX4_lastRun) ∈ wsL_law := inR_19 _ (.tail _ (.tail _ (.tail _ (.tail _ (.tail _ (.tail _ (.tail _ (.tail _ (.head _)))))))))
theorem wi_yX4_lastRun : (Cond.instanceMethod yX4_lastRun) ∈ wsL_law := inR_19 _ (.tail _ (.tail _ (.tail _ (.tail _ (.tail _ (.tail _ (.tail _ (.tail _ (.tail _ (.head _))))))))))
theorem wse_yX4_lastRun : (Cond.selects RX4 yX4_lastRun yX4_lastRun) ∈ wsL_law := inR_19 _ (.tail _ (.tail _ (.tail _ (.tail _ (.tail _ (.tail _ (.tail _ (.tail _ (.tail _ (.tail _ (.head _)))))))))))
theorem wc_yX4_lastRun : (Cond.code yX4_lastRun cX4_lastRun 2 (some .int)) ∈ wsL_law := inR_19 _ (.tail _ (.tail _ (.tail _ (.tail _ (.tail _ (.tail _ (.tail _ (.tail _ (.tail _ (.tail _ (.tail _ (.head _))))))))))))
theorem wm_RL_54 : (Cond.methodLink RL 54 yX3_cellCount) ∈ wsL_law := inR_19 _ (.tail _ (.tail _ (.tail _ (.tail _ (.tail _ (.tail _ (.tail _ (.tail _ (.tail _ (.tail _ (.tail _ (.tail _ (.head _)))))))))))))
theorem wi_yX3_cellCount : (Cond.instanceMethod yX3_cellCount) ∈ wsL_law := inR_19 _ (.tail _ (.tail _ (.tail _ (.tail _ (.tail _ (.tail _ (.tail _ (.tail _ (.tail _ (.tail _ (.tail _ (.tail _ (.tail _ (.head _))))))))))))))
theorem wse_yX3_cellCount : (Cond.selects RX3 yX3_cellCount yX3_cellCount) ∈ wsL_law := inR_19 _ (.tail _ (.tail _ (.tail _ (.tail _ (.tail _ (.tail _ (.tail _ (.tail _ (.tail _ (.tail _ (.tail _ (.tail _ (.tail _ (.tail _ (.head _)))))))))))))))
theorem wc_yX3_cellCount : (Cond.code yX3_cellCount cX3_cellCount 1 (some .int)) ∈ wsL_law := inR_19 _ (.tail _ (.tail _ (.tail _ (.tail _ (.tail _ (.tail _ (.tail _ (.tail _ (.tail _ (.tail _ (.tail _ (.tail _ (.tail _ (.tail _ (.tail _ (.head _))))))))))))))))
theorem wm_RL_57 : (Cond.methodLink RL 57 yX4_cellCount) ∈ wsL_law := inR_19 _ (.tail _ (.tail _ (.tail _ (.tail _ (.tail _ (.tail _ (.tail _ (.tail _ (.tail _ (.tail _ (.tail _ (.tail _ (.tail _ (.tail _ (.tail _ (.tail _ (.head _)))))))))))))))))
theorem wi_yX4_cellCount : (Cond.instanceMethod yX4_cellCount) ∈ wsL_law := inR_19 _ (.tail _ (.tail _ (.tail _ (.tail _ (.tail _ (.tail _ (.tail _ (.tail _ (.tail _ (.tail _ (.tail _ (.tail _ (.tail _ (.tail _ (.tail _ (.tail _ (.tail _ (.head _))))))))))))))))))
theorem wse_yX4_cellCount : (Cond.selects RX4 yX4_cellCount yX4_cellCount) ∈ wsL_law := inR_19 _ (.tail _ (.tail _ (.tail _ (.tail _ (.tail _ (.tail _ (.tail _ (.tail _ (.tail _ (.tail _ (.tail _ (.tail _ (.tail _ (.tail _ (.tail _ (.tail _ (.tail _ (.tail _ (.head _)))))))))))))))))))
theorem wc_yX4_cellCount : (Cond.code yX4_cellCount cX4_cellCount 1 (some .int)) ∈ wsL_law := inR_19 _ (.tail _ (.tail _ (.tail _ (.tail _ (.tail _ (.tail _ (.tail _ (.tail _ (.tail _ (.tail _ (.tail _ (.tail _ (.tail _ (.tail _ (.tail _ (.tail _ (.tail _ (.tail _ (.tail _ (.head _))))))))))))))))))))
theorem wm_RL_58 : (Cond.methodLink RL 58 yX3_variable) ∈ wsL_law := inR_19 _ (.tail _ (.tail _ (.tail _ (.tail _ (.tail _ (.tail _ (.tail _ (.tail _ (.tail _ (.tail _ (.tail _ (.tail _ (.tail _ (.tail _ (.tail _ (.tail _ (.tail _ (.tail _ (.tail _ (.tail _ (.head _)))))))))))))))))))))
theorem wi_yX3_variable : (Cond.instanceMethod yX3_variable) ∈ wsL_law := inR_19 _ (.tail _ (.tail _ (.tail _ (.tail _ (.tail _ (.tail _ (.tail _ (.tail _ (.tail _ (.tail _ (.tail _ (.tail _ (.tail _ (.tail _ (.tail _ (.tail _ (.tail _ (.tail _ (.tail _ (.tail _ (.tail _ (.head _))))))))))))))))))))))
theorem wse_yX3_variable : (Cond.selects RX3 yX3_variable yX3_variable) ∈ wsL_law := inR_19 _ (.tail _ (.tail _ (.tail _ (.tail _ (.tail _ (.tail _ (.tail _ (.tail _ (.tail _ (.tail _ (.tail _ (.tail _ (.tail _ (.tail _ (.tail _ (.tail _ (.tail _ (.tail _ (.tail _ (.tail _ (.tail _ (.tail _ (.head _)))))))))))))))))))))))
theorem wc_yX3_variable : (Cond.code yX3_variable cX3_variable 2 (some .int)) ∈ wsL_law := inR_19 _ (.tail _ (.tail _ (.tail _ (.tail _ (.tail _ (.tail _ (.tail _ (.tail _ (.tail _ (.tail _ (.tail _ (.tail _ (.tail _ (.tail _ (.tail _ (.tail _ (.tail _ (.tail _ (.tail _ (.tail _ (.tail _ (.tail _ (.tail _ (.head _))))))))))))))))))))))))
theorem wm_RL_61 : (Cond.methodLink RL 61 yX4_variable) ∈ wsL_law := inR_20 _ (.head _)
theorem wi_yX4_variable : (Cond.instanceMethod yX4_variable) ∈ wsL_law := inR_20 _ (.tail _ (.head _))
theorem wse_yX4_variable : (Cond.selects RX4 yX4_variable yX4_variable) ∈ wsL_law := inR_20 _ (.tail _ (.tail _ (.head _)))
theorem wc_yX4_variable : (Cond.code yX4_variable cX4_variable 2 (some .int)) ∈ wsL_law := inR_20 _ (.tail _ (.tail _ (.tail _ (.head _))))
theorem wm_RX4_136 : (Cond.methodLink RX4 136 yX4_ofCell) ∈ wsL_law := inR_20 _ (.tail _ (.tail _ (.tail _ (.tail _ (.head _)))))
theorem wi_yX4_ofCell : (Cond.instanceMethod yX4_ofCell) ∈ wsL_law := inR_20 _ (.tail _ (.tail _ (.tail _ (.tail _ (.tail _ (.head _))))))
theorem wse_yX4_ofCell : (Cond.selects RX4 yX4_ofCell yX4_ofCell) ∈ wsL_law := inR_20 _ (.tail _ (.tail _ (.tail _ (.tail _ (.tail _ (.tail _ (.head _)))))))
theorem wc_yX4_ofCell : (Cond.code yX4_ofCell cX4_ofCell 3 (some .int)) ∈ wsL_law := inR_20 _ (.tail _ (.tail _ (.tail _ (.tail _ (.tail _ (.tail _ (.tail _ (.head _))))))))
theorem wm_RL_62 : (Cond.methodLink RL 62 yX3_status) ∈ wsL_law := inR_20 _ (.tail _ (.tail _ (.tail _ (.tail _ (.tail _ (.tail _ (.tail _ (.tail _ (.head _)))))))))
theorem wi_yX3_status : (Cond.instanceMethod yX3_status) ∈ wsL_law := inR_20 _ (.tail _ (.tail _ (.tail _ (.tail _ (.tail _ (.tail _ (.tail _ (.tail _ (.tail _ (.head _))))))))))
theorem wse_yX3_status : (Cond.selects RX3 yX3_status yX3_status) ∈ wsL_law := inR_20 _ (.tail _ (.tail _ (.tail _ (.tail _ (.tail _ (.tail _ (.tail _ (.tail _ (.tail _ (.tail _ (.head _)))))))))))
theorem wc_yX3_status : (Cond.code yX3_status cX3_status 2 (some .int)) ∈ wsL_law := inR_20 _ (.tail _ (.tail _ (.tail _ (.tail _ (.tail _ (.tail _ (.tail _ (.tail _ (.tail _ (.tail _ (.tail _ (.head _))))))))))))
theorem wm_RX3_109 : (Cond.methodLink RX3 109 yX3_statusOf) ∈ wsL_law := inR_20 _ (.tail _ (.tail _ (.tail _ (.tail _ (.tail _ (.tail _ (.tail _ (.tail _ (.tail _ (.tail _ (.tail _ (.tail _ (.head _)))))))))))))
theorem wi_yX3_statusOf : (Cond.instanceMethod yX3_statusOf) ∈ wsL_law := inR_20 _ (.tail _ (.tail _ (.tail _ (.tail _ (.tail _ (.tail _ (.tail _ (.tail _ (.tail _ (.tail _ (.tail _ (.tail _ (.tail _ (.head _))))))))))))))
theorem wse_yX3_statusOf : (Cond.selects RX3 yX3_statusOf yX3_statusOf) ∈ wsL_law := inR_20 _ (.tail _ (.tail _ (.tail _ (.tail _ (.tail _ (.tail _ (.tail _ (.tail _ (.tail _ (.tail _ (.tail _ (.tail _ (.tail _ (.tail _ (.head _)))))))))))))))
theorem wc_yX3_statusOf : (Cond.code yX3_statusOf cX3_statusOf 3 (some .int)) ∈ wsL_law := inR_20 _ (.tail _ (.tail _ (.tail _ (.tail _ (.tail _ (.tail _ (.tail _ (.tail _ (.tail _ (.tail _ (.tail _ (.tail _ (.tail _ (.tail _ (.tail _ (.head _))))))))))))))))
theorem wm_RL_65 : (Cond.methodLink RL 65 yX4_status) ∈ wsL_law := inR_20 _ (.tail _ (.tail _ (.tail _ (.tail _ (.tail _ (.tail _ (.tail _ (.tail _ (.tail _ (.tail _ (.tail _ (.tail _ (.tail _ (.tail _ (.tail _ (.tail _ (.head _)))))))))))))))))
theorem wi_yX4_status : (Cond.instanceMethod yX4_status) ∈ wsL_law := inR_20 _ (.tail _ (.tail _ (.tail _ (.tail _ (.tail _ (.tail _ (.tail _ (.tail _ (.tail _ (.tail _ (.tail _ (.tail _ (.tail _ (.tail _ (.tail _ (.tail _ (.tail _ (.head _))))))))))))))))))
theorem wse_yX4_status : (Cond.selects RX4 yX4_status yX4_status) ∈ wsL_law := inR_20 _ (.tail _ (.tail _ (.tail _ (.tail _ (.tail _ (.tail _ (.tail _ (.tail _ (.tail _ (.tail _ (.tail _ (.tail _ (.tail _ (.tail _ (.tail _ (.tail _ (.tail _ (.tail _ (.head _)))))))))))))))))))
theorem wc_yX4_status : (Cond.code yX4_status cX4_status 2 (some .int)) ∈ wsL_law := inR_20 _ (.tail _ (.tail _ (.tail _ (.tail _ (.tail _ (.tail _ (.tail _ (.tail _ (.tail _ (.tail _ (.tail _ (.tail _ (.tail _ (.tail _ (.tail _ (.tail _ (.tail _ (.tail _ (.tail _ (.head _))))))))))))))))))))
theorem wm_RX4_139 : (Cond.methodLink RX4 139 yX4_statusOf) ∈ wsL_law := inR_20 _ (.tail _ (.tail _ (.tail _ (.tail _ (.tail _ (.tail _ (.tail _ (.tail _ (.tail _ (.tail _ (.tail _ (.tail _ (.tail _ (.tail _ (.tail _ (.tail _ (.tail _ (.tail _ (.tail _ (.tail _ (.head _)))))))))))))))))))))
theorem wi_yX4_statusOf : (Cond.instanceMethod yX4_statusOf) ∈ wsL_law := inR_20 _ (.tail _ (.tail _ (.tail _ (.tail _ (.tail _ (.tail _ (.tail _ (.tail _ (.tail _ (.tail _ (.tail _ (.tail _ (.tail _ (.tail _ (.tail _ (.tail _ (.tail _ (.tail _ (.tail _ (.tail _ (.tail _ (.head _))))))))))))))))))))))
theorem wse_yX4_statusOf : (Cond.selects RX4 yX4_statusOf yX4_statusOf) ∈ wsL_law := inR_20 _ (.tail _ (.tail _ (.tail _ (.tail _ (.tail _ (.tail _ (.tail _ (.tail _ (.tail _ (.tail _ (.tail _ (.tail _ (.tail _ (.tail _ (.tail _ (.tail _ (.tail _ (.tail _ (.tail _ (.tail _ (.tail _ (.tail _ (.head _)))))))))))))))))))))))
theorem wc_yX4_statusOf : (Cond.code yX4_statusOf cX4_statusOf 2 (some .int)) ∈ wsL_law := inR_20 _ (.tail _ (.tail _ (.tail _ (.tail _ (.tail _ (.tail _ (.tail _ (.tail _ (.tail _ (.tail _ (.tail _ (.tail _ (.tail _ (.tail _ (.tail _ (.tail _ (.tail _ (.tail _ (.tail _ (.tail _ (.tail _ (.tail _ (.tail _ (.head _))))))))))))))))))))))))
theorem wm_RL_66 : (Cond.methodLink RL 66 yX3_value) ∈ wsL_law := inR_21 _ (.head _)
theorem wi_yX3_value : (Cond.instanceMethod yX3_value) ∈ wsL_law := inR_21 _ (.tail _ (.head _))
theorem wse_yX3_value : (Cond.selects RX3 yX3_value yX3_value) ∈ wsL_law := inR_21 _ (.tail _ (.tail _ (.head _)))
theorem wc_yX3_value : (Cond.code yX3_value cX3_value 2 (some .int)) ∈ wsL_law := inR_21 _ (.tail _ (.tail _ (.tail _ (.head _))))
theorem wm_RX3_112 : (Cond.methodLink RX3 112 yX3_freshValueOf) ∈ wsL_law := inR_21 _ (.tail _ (.tail _ (.tail _ (.tail _ (.head _)))))
theorem wi_yX3_freshValueOf : (Cond.instanceMethod yX3_freshValueOf) ∈ wsL_law := inR_21 _ (.tail _ (.tail _ (.tail _ (.tail _ (.tail _ (.head _))))))
theorem wse_yX3_freshValueOf : (Cond.selects RX3 yX3_freshValueOf yX3_freshValueOf) ∈ wsL_law := inR_21 _ (.tail _ (.tail _ (.tail _ (.tail _ (.tail _ (.tail _ (.head _)))))))
theorem wc_yX3_freshValueOf : (Cond.code yX3_freshValueOf cX3_freshValueOf 2 (some .int)) ∈ wsL_law := inR_21 _ (.tail _ (.tail _ (.tail _ (.tail _ (.tail _ (.tail _ (.tail _ (.head _))))))))
theorem wm_RL_69 : (Cond.methodLink RL 69 yX4_value) ∈ wsL_law := inR_21 _ (.tail _ (.tail _ (.tail _ (.tail _ (.tail _ (.tail _ (.tail _ (.tail _ (.head _)))))))))
theorem wi_yX4_value : (Cond.instanceMethod yX4_value) ∈ wsL_law := inR_21 _ (.tail _ (.tail _ (.tail _ (.tail _ (.tail _ (.tail _ (.tail _ (.tail _ (.tail _ (.head _))))))))))
theorem wse_yX4_value : (Cond.selects RX4 yX4_value yX4_value) ∈ wsL_law := inR_21 _ (.tail _ (.tail _ (.tail _ (.tail _ (.tail _ (.tail _ (.tail _ (.tail _ (.tail _ (.tail _ (.head _)))))))))))
theorem wc_yX4_value : (Cond.code yX4_value cX4_value 2 (some .int)) ∈ wsL_law := inR_21 _ (.tail _ (.tail _ (.tail _ (.tail _ (.tail _ (.tail _ (.tail _ (.tail _ (.tail _ (.tail _ (.tail _ (.head _))))))))))))
theorem wm_RX4_142 : (Cond.methodLink RX4 142 yX4_valueAt) ∈ wsL_law := inR_21 _ (.tail _ (.tail _ (.tail _ (.tail _ (.tail _ (.tail _ (.tail _ (.tail _ (.tail _ (.tail _ (.tail _ (.tail _ (.head _)))))))))))))
theorem wi_yX4_valueAt : (Cond.instanceMethod yX4_valueAt) ∈ wsL_law := inR_21 _ (.tail _ (.tail _ (.tail _ (.tail _ (.tail _ (.tail _ (.tail _ (.tail _ (.tail _ (.tail _ (.tail _ (.tail _ (.tail _ (.head _))))))))))))))
theorem wse_yX4_valueAt : (Cond.selects RX4 yX4_valueAt yX4_valueAt) ∈ wsL_law := inR_21 _ (.tail _ (.tail _ (.tail _ (.tail _ (.tail _ (.tail _ (.tail _ (.tail _ (.tail _ (.tail _ (.tail _ (.tail _ (.tail _ (.tail _ (.head _)))))))))))))))
theorem wc_yX4_valueAt : (Cond.code yX4_valueAt cX4_valueAt 2 (some .int)) ∈ wsL_law := inR_21 _ (.tail _ (.tail _ (.tail _ (.tail _ (.tail _ (.tail _ (.tail _ (.tail _ (.tail _ (.tail _ (.tail _ (.tail _ (.tail _ (.tail _ (.tail _ (.head _))))))))))))))))
theorem wm_RL_70 : (Cond.methodLink RL 70 yX3_valueOf) ∈ wsL_law := inR_21 _ (.tail _ (.tail _ (.tail _ (.tail _ (.tail _ (.tail _ (.tail _ (.tail _ (.tail _ (.tail _ (.tail _ (.tail _ (.tail _ (.tail _ (.tail _ (.tail _ (.head _)))))))))))))))))
theorem wi_yX3_valueOf : (Cond.instanceMethod yX3_valueOf) ∈ wsL_law := inR_21 _ (.tail _ (.tail _ (.tail _ (.tail _ (.tail _ (.tail _ (.tail _ (.tail _ (.tail _ (.tail _ (.tail _ (.tail _ (.tail _ (.tail _ (.tail _ (.tail _ (.tail _ (.head _))))))))))))))))))
theorem wse_yX3_valueOf : (Cond.selects RX3 yX3_valueOf yX3_valueOf) ∈ wsL_law := inR_21 _ (.tail _ (.tail _ (.tail _ (.tail _ (.tail _ (.tail _ (.tail _ (.tail _ (.tail _ (.tail _ (.tail _ (.tail _ (.tail _ (.tail _ (.tail _ (.tail _ (.tail _ (.tail _ (.head _)))))))))))))))))))
theorem wc_yX3_valueOf : (Cond.code yX3_valueOf cX3_valueOf 3 (some .int)) ∈ wsL_law := inR_21 _ (.tail _ (.tail _ (.tail _ (.tail _ (.tail _ (.tail _ (.tail _ (.tail _ (.tail _ (.tail _ (.tail _ (.tail _ (.tail _ (.tail _ (.tail _ (.tail _ (.tail _ (.tail _ (.tail _ (.head _))))))))))))))))))))
theorem wf_RX3_118 : (Cond.fieldLink RX3 118 "ReactiveNotebook$Graph" "soleDefiners" "[I") ∈ wsL_law := inR_21 _ (.tail _ (.tail _ (.tail _ (.tail _ (.tail _ (.tail _ (.tail _ (.tail _ (.tail _ (.tail _ (.tail _ (.tail _ (.tail _ (.tail _ (.tail _ (.tail _ (.tail _ (.tail _ (.tail _ (.tail _ (.head _)))))))))))))))))))))
theorem wm_RL_73 : (Cond.methodLink RL 73 yX4_valueOf) ∈ wsL_law := inR_21 _ (.tail _ (.tail _ (.tail _ (.tail _ (.tail _ (.tail _ (.tail _ (.tail _ (.tail _ (.tail _ (.tail _ (.tail _ (.tail _ (.tail _ (.tail _ (.tail _ (.tail _ (.tail _ (.tail _ (.tail _ (.tail _ (.head _))))))))))))))))))))))
theorem wi_yX4_valueOf : (Cond.instanceMethod yX4_valueOf) ∈ wsL_law := inR_21 _ (.tail _ (.tail _ (.tail _ (.tail _ (.tail _ (.tail _ (.tail _ (.tail _ (.tail _ (.tail _ (.tail _ (.tail _ (.tail _ (.tail _ (.tail _ (.tail _ (.tail _ (.tail _ (.tail _ (.tail _ (.tail _ (.tail _ (.head _)))))))))))))))))))))))
theorem wse_yX4_valueOf : (Cond.selects RX4 yX4_valueOf yX4_valueOf) ∈ wsL_law := inR_21 _ (.tail _ (.tail _ (.tail _ (.tail _ (.tail _ (.tail _ (.tail _ (.tail _ (.tail _ (.tail _ (.tail _ (.tail _ (.tail _ (.tail _ (.tail _ (.tail _ (.tail _ (.tail _ (.tail _ (.tail _ (.tail _ (.tail _ (.tail _ (.head _))))))))))))))))))))))))
theorem wc_yX4_valueOf : (Cond.code yX4_valueOf cX4_valueOf 3 (some .int)) ∈ wsL_law := inR_22 _ (.head _)
theorem wm_RL_74 : (Cond.methodLink RL 74 yX3_version) ∈ wsL_law := inR_22 _ (.tail _ (.head _))
theorem wi_yX3_version : (Cond.instanceMethod yX3_version) ∈ wsL_law := inR_22 _ (.tail _ (.tail _ (.head _)))
theorem wse_yX3_version : (Cond.selects RX3 yX3_version yX3_version) ∈ wsL_law := inR_22 _ (.tail _ (.tail _ (.tail _ (.head _))))
theorem wc_yX3_version : (Cond.code yX3_version cX3_version 2 (some .int)) ∈ wsL_law := inR_22 _ (.tail _ (.tail _ (.tail _ (.tail _ (.head _)))))
theorem wm_RL_77 : (Cond.methodLink RL 77 yX4_version) ∈ wsL_law := inR_22 _ (.tail _ (.tail _ (.tail _ (.tail _ (.tail _ (.head _))))))
theorem wi_yX4_version : (Cond.instanceMethod yX4_version) ∈ wsL_law := inR_22 _ (.tail _ (.tail _ (.tail _ (.tail _ (.tail _ (.tail _ (.head _)))))))
theorem wse_yX4_version : (Cond.selects RX4 yX4_version yX4_version) ∈ wsL_law := inR_22 _ (.tail _ (.tail _ (.tail _ (.tail _ (.tail _ (.tail _ (.tail _ (.head _))))))))
theorem wc_yX4_version : (Cond.code yX4_version cX4_version 2 (some .int)) ∈ wsL_law := inR_22 _ (.tail _ (.tail _ (.tail _ (.tail _ (.tail _ (.tail _ (.tail _ (.tail _ (.head _)))))))))
theorem wm_RL_78 : (Cond.methodLink RL 78 yX3_runs) ∈ wsL_law := inR_22 _ (.tail _ (.tail _ (.tail _ (.tail _ (.tail _ (.tail _ (.tail _ (.tail _ (.tail _ (.head _))))))))))
theorem wi_yX3_runs : (Cond.instanceMethod yX3_runs) ∈ wsL_law := inR_22 _ (.tail _ (.tail _ (.tail _ (.tail _ (.tail _ (.tail _ (.tail _ (.tail _ (.tail _ (.tail _ (.head _)))))))))))
theorem wse_yX3_runs : (Cond.selects RX3 yX3_runs yX3_runs) ∈ wsL_law := inR_22 _ (.tail _ (.tail _ (.tail _ (.tail _ (.tail _ (.tail _ (.tail _ (.tail _ (.tail _ (.tail _ (.tail _ (.head _))))))))))))
theorem wc_yX3_runs : (Cond.code yX3_runs cX3_runs 2 (some .int)) ∈ wsL_law := inR_22 _ (.tail _ (.tail _ (.tail _ (.tail _ (.tail _ (.tail _ (.tail _ (.tail _ (.tail _ (.tail _ (.tail _ (.tail _ (.head _)))))))))))))
theorem wm_RL_81 : (Cond.methodLink RL 81 yX4_runs) ∈ wsL_law := inR_22 _ (.tail _ (.tail _ (.tail _ (.tail _ (.tail _ (.tail _ (.tail _ (.tail _ (.tail _ (.tail _ (.tail _ (.tail _ (.tail _ (.head _))))))))))))))
theorem wi_yX4_runs : (Cond.instanceMethod yX4_runs) ∈ wsL_law := inR_22 _ (.tail _ (.tail _ (.tail _ (.tail _ (.tail _ (.tail _ (.tail _ (.tail _ (.tail _ (.tail _ (.tail _ (.tail _ (.tail _ (.tail _ (.head _)))))))))))))))
theorem wse_yX4_runs : (Cond.selects RX4 yX4_runs yX4_runs) ∈ wsL_law := inR_22 _ (.tail _ (.tail _ (.tail _ (.tail _ (.tail _ (.tail _ (.tail _ (.tail _ (.tail _ (.tail _ (.tail _ (.tail _ (.tail _ (.tail _ (.tail _ (.head _))))))))))))))))
theorem wc_yX4_runs : (Cond.code yX4_runs cX4_runs 2 (some .int)) ∈ wsL_law := inR_22 _ (.tail _ (.tail _ (.tail _ (.tail _ (.tail _ (.tail _ (.tail _ (.tail _ (.tail _ (.tail _ (.tail _ (.tail _ (.tail _ (.tail _ (.tail _ (.tail _ (.head _)))))))))))))))))
theorem wm_RL_82 : (Cond.methodLink RL 82 yX3_totalRuns) ∈ wsL_law := inR_22 _ (.tail _ (.tail _ (.tail _ (.tail _ (.tail _ (.tail _ (.tail _ (.tail _ (.tail _ (.tail _ (.tail _ (.tail _ (.tail _ (.tail _ (.tail _ (.tail _ (.tail _ (.head _))))))))))))))))))
theorem wi_yX3_totalRuns : (Cond.instanceMethod yX3_totalRuns) ∈ wsL_law := inR_22 _ (.tail _ (.tail _ (.tail _ (.tail _ (.tail _ (.tail _ (.tail _ (.tail _ (.tail _ (.tail _ (.tail _ (.tail _ (.tail _ (.tail _ (.tail _ (.tail _ (.tail _ (.tail _ (.head _)))))))))))))))))))
theorem wse_yX3_totalRuns : (Cond.selects RX3 yX3_totalRuns yX3_totalRuns) ∈ wsL_law := inR_22 _ (.tail _ (.tail _ (.tail _ (.tail _ (.tail _ (.tail _ (.tail _ (.tail _ (.tail _ (.tail _ (.tail _ (.tail _ (.tail _ (.tail _ (.tail _ (.tail _ (.tail _ (.tail _ (.tail _ (.head _))))))))))))))))))))
theorem wc_yX3_totalRuns : (Cond.code yX3_totalRuns cX3_totalRuns 1 (some .int)) ∈ wsL_law := inR_22 _ (.tail _ (.tail _ (.tail _ (.tail _ (.tail _ (.tail _ (.tail _ (.tail _ (.tail _ (.tail _ (.tail _ (.tail _ (.tail _ (.tail _ (.tail _ (.tail _ (.tail _ (.tail _ (.tail _ (.tail _ (.head _)))))))))))))))))))))
theorem wf_RX3_127 : (Cond.fieldLink RX3 127 "ReactiveNotebook$State" "totalRuns" "I") ∈ wsL_law := inR_22 _ (.tail _ (.tail _ (.tail _ (.tail _ (.tail _ (.tail _ (.tail _ (.tail _ (.tail _ (.tail _ (.tail _ (.tail _ (.tail _ (.tail _ (.tail _ (.tail _ (.tail _ (.tail _ (.tail _ (.tail _ (.tail _ (.head _))))))))))))))))))))))
theorem wm_RL_85 : (Cond.methodLink RL 85 yX4_totalRuns) ∈ wsL_law := inR_22 _ (.tail _ (.tail _ (.tail _ (.tail _ (.tail _ (.tail _ (.tail _ (.tail _ (.tail _ (.tail _ (.tail _ (.tail _ (.tail _ (.tail _ (.tail _ (.tail _ (.tail _ (.tail _ (.tail _ (.tail _ (.tail _ (.tail _ (.head _)))))))))))))))))))))))
theorem wi_yX4_totalRuns : (Cond.instanceMethod yX4_totalRuns) ∈ wsL_law := inR_22 _ (.tail _ (.tail _ (.tail _ (.tail _ (.tail _ (.tail _ (.tail _ (.tail _ (.tail _ (.tail _ (.tail _ (.tail _ (.tail _ (.tail _ (.tail _ (.tail _ (.tail _ (.tail _ (.tail _ (.tail _ (.tail _ (.tail _ (.tail _ (.head _))))))))))))))))))))))))
theorem wse_yX4_totalRuns : (Cond.selects RX4 yX4_totalRuns yX4_totalRuns) ∈ wsL_law := inR_23 _ (.head _)
theorem wc_yX4_totalRuns : (Cond.code yX4_totalRuns cX4_totalRuns 1 (some .int)) ∈ wsL_law := inR_23 _ (.tail _ (.head _))
theorem wm_RL_86 : (Cond.methodLink RL 86 yX3_dependencies) ∈ wsL_law := inR_23 _ (.tail _ (.tail _ (.head _)))
theorem wi_yX3_dependencies : (Cond.instanceMethod yX3_dependencies) ∈ wsL_law := inR_23 _ (.tail _ (.tail _ (.tail _ (.head _))))
theorem wse_yX3_dependencies : (Cond.selects RX3 yX3_dependencies yX3_dependencies) ∈ wsL_law := inR_23 _ (.tail _ (.tail _ (.tail _ (.tail _ (.head _)))))
theorem wc_yX3_dependencies : (Cond.code yX3_dependencies cX3_dependencies 2 (some .int)) ∈ wsL_law := inR_23 _ (.tail _ (.tail _ (.tail _ (.tail _ (.tail _ (.head _))))))
theorem wm_RL_89 : (Cond.methodLink RL 89 yX4_dependencies) ∈ wsL_law := inR_23 _ (.tail _ (.tail _ (.tail _ (.tail _ (.tail _ (.tail _ (.head _)))))))
theorem wi_yX4_dependencies : (Cond.instanceMethod yX4_dependencies) ∈ wsL_law := inR_23 _ (.tail _ (.tail _ (.tail _ (.tail _ (.tail _ (.tail _ (.tail _ (.head _))))))))
theorem wse_yX4_dependencies : (Cond.selects RX4 yX4_dependencies yX4_dependencies) ∈ wsL_law := inR_23 _ (.tail _ (.tail _ (.tail _ (.tail _ (.tail _ (.tail _ (.tail _ (.tail _ (.head _)))))))))
theorem wc_yX4_dependencies : (Cond.code yX4_dependencies cX4_dependencies 2 (some .int)) ∈ wsL_law := inR_23 _ (.tail _ (.tail _ (.tail _ (.tail _ (.tail _ (.tail _ (.tail _ (.tail _ (.tail _ (.head _))))))))))
theorem wm_RL_90 : (Cond.methodLink RL 90 yX3_dependents) ∈ wsL_law := inR_23 _ (.tail _ (.tail _ (.tail _ (.tail _ (.tail _ (.tail _ (.tail _ (.tail _ (.tail _ (.tail _ (.head _)))))))))))
theorem wi_yX3_dependents : (Cond.instanceMethod yX3_dependents) ∈ wsL_law := inR_23 _ (.tail _ (.tail _ (.tail _ (.tail _ (.tail _ (.tail _ (.tail _ (.tail _ (.tail _ (.tail _ (.tail _ (.head _))))))))))))
theorem wse_yX3_dependents : (Cond.selects RX3 yX3_dependents yX3_dependents) ∈ wsL_law := inR_23 _ (.tail _ (.tail _ (.tail _ (.tail _ (.tail _ (.tail _ (.tail _ (.tail _ (.tail _ (.tail _ (.tail _ (.tail _ (.head _)))))))))))))
theorem wc_yX3_dependents : (Cond.code yX3_dependents cX3_dependents 2 (some .int)) ∈ wsL_law := inR_23 _ (.tail _ (.tail _ (.tail _ (.tail _ (.tail _ (.tail _ (.tail _ (.tail _ (.tail _ (.tail _ (.tail _ (.tail _ (.tail _ (.head _))))))))))))))
theorem wm_RX3_133 : (Cond.methodLink RX3 133 yX3_dependentsOf) ∈ wsL_law := inR_23 _ (.tail _ (.tail _ (.tail _ (.tail _ (.tail _ (.tail _ (.tail _ (.tail _ (.tail _ (.tail _ (.tail _ (.tail _ (.tail _ (.tail _ (.head _)))))))))))))))
theorem wi_yX3_dependentsOf : (Cond.instanceMethod yX3_dependentsOf) ∈ wsL_law := inR_23 _ (.tail _ (.tail _ (.tail _ (.tail _ (.tail _ (.tail _ (.tail _ (.tail _ (.tail _ (.tail _ (.tail _ (.tail _ (.tail _ (.tail _ (.tail _ (.head _))))))))))))))))
theorem wse_yX3_dependentsOf : (Cond.selects RX3 yX3_dependentsOf yX3_dependentsOf) ∈ wsL_law := inR_23 _ (.tail _ (.tail _ (.tail _ (.tail _ (.tail _ (.tail _ (.tail _ (.tail _ (.tail _ (.tail _ (.tail _ (.tail _ (.tail _ (.tail _ (.tail _ (.tail _ (.head _)))))))))))))))))
theorem wc_yX3_dependentsOf : (Cond.code yX3_dependentsOf cX3_dependentsOf 4 (some .int)) ∈ wsL_law := inR_23 _ (.tail _ (.tail _ (.tail _ (.tail _ (.tail _ (.tail _ (.tail _ (.tail _ (.tail _ (.tail _ (.tail _ (.tail _ (.tail _ (.tail _ (.tail _ (.tail _ (.tail _ (.head _))))))))))))))))))
theorem wm_RL_93 : (Cond.methodLink RL 93 yX4_dependents) ∈ wsL_law := inR_23 _ (.tail _ (.tail _ (.tail _ (.tail _ (.tail _ (.tail _ (.tail _ (.tail _ (.tail _ (.tail _ (.tail _ (.tail _ (.tail _ (.tail _ (.tail _ (.tail _ (.tail _ (.tail _ (.head _)))))))))))))))))))
theorem wi_yX4_dependents : (Cond.instanceMethod yX4_dependents) ∈ wsL_law := inR_23 _ (.tail _ (.tail _ (.tail _ (.tail _ (.tail _ (.tail _ (.tail _ (.tail _ (.tail _ (.tail _ (.tail _ (.tail _ (.tail _ (.tail _ (.tail _ (.tail _ (.tail _ (.tail _ (.tail _ (.head _))))))))))))))))))))
theorem wse_yX4_dependents : (Cond.selects RX4 yX4_dependents yX4_dependents) ∈ wsL_law := inR_23 _ (.tail _ (.tail _ (.tail _ (.tail _ (.tail _ (.tail _ (.tail _ (.tail _ (.tail _ (.tail _ (.tail _ (.tail _ (.tail _ (.tail _ (.tail _ (.tail _ (.tail _ (.tail _ (.tail _ (.tail _ (.head _)))))))))))))))))))))
theorem wc_yX4_dependents : (Cond.code yX4_dependents cX4_dependents 2 (some .int)) ∈ wsL_law := inR_23 _ (.tail _ (.tail _ (.tail _ (.tail _ (.tail _ (.tail _ (.tail _ (.tail _ (.tail _ (.tail _ (.tail _ (.tail _ (.tail _ (.tail _ (.tail _ (.tail _ (.tail _ (.tail _ (.tail _ (.tail _ (.tail _ (.head _))))))))))))))))))))))
theorem wm_RX4_145 : (Cond.methodLink RX4 145 yX4_dependentsOf) ∈ wsL_law := inR_23 _ (.tail _ (.tail _ (.tail _ (.tail _ (.tail _ (.tail _ (.tail _ (.tail _ (.tail _ (.tail _ (.tail _ (.tail _ (.tail _ (.tail _ (.tail _ (.tail _ (.tail _ (.tail _ (.tail _ (.tail _ (.tail _ (.tail _ (.head _)))))))))))))))))))))))
theorem wi_yX4_dependentsOf : (Cond.instanceMethod yX4_dependentsOf) ∈ wsL_law := inR_23 _ (.tail _ (.tail _ (.tail _ (.tail _ (.tail _ (.tail _ (.tail _ (.tail _ (.tail _ (.tail _ (.tail _ (.tail _ (.tail _ (.tail _ (.tail _ (.tail _ (.tail _ (.tail _ (.tail _ (.tail _ (.tail _ (.tail _ (.tail _ (.head _))))))))))))))))))))))))
theorem wse_yX4_dependentsOf : (Cond.selects RX4 yX4_dependentsOf yX4_dependentsOf) ∈ wsL_law := inR_24 _ (.head _)
theorem wc_yX4_dependentsOf : (Cond.code yX4_dependentsOf cX4_dependentsOf 4 (some .int)) ∈ wsL_law := inR_24 _ (.tail _ (.head _))
theorem wm_RL_94 : (Cond.methodLink RL 94 yX3_definers) ∈ wsL_law := inR_24 _ (.tail _ (.tail _ (.head _)))
theorem wi_yX3_definers : (Cond.instanceMethod yX3_definers) ∈ wsL_law := inR_24 _ (.tail _ (.tail _ (.tail _ (.head _))))
theorem wse_yX3_definers : (Cond.selects RX3 yX3_definers yX3_definers) ∈ wsL_law := inR_24 _ (.tail _ (.tail _ (.tail _ (.tail _ (.head _)))))
theorem wc_yX3_definers : (Cond.code yX3_definers cX3_definers 2 (some .int)) ∈ wsL_law := inR_24 _ (.tail _ (.tail _ (.tail _ (.tail _ (.tail _ (.head _))))))
theorem wf_RX3_136 : (Cond.fieldLink RX3 136 "ReactiveNotebook$Graph" "definers" "[I") ∈ wsL_law := inR_24 _ (.tail _ (.tail _ (.tail _ (.tail _ (.tail _ (.tail _ (.head _)))))))
theorem wm_RL_97 : (Cond.methodLink RL 97 yX4_definers) ∈ wsL_law := inR_24 _ (.tail _ (.tail _ (.tail _ (.tail _ (.tail _ (.tail _ (.tail _ (.head _))))))))
theorem wi_yX4_definers : (Cond.instanceMethod yX4_definers) ∈ wsL_law := inR_24 _ (.tail _ (.tail _ (.tail _ (.tail _ (.tail _ (.tail _ (.tail _ (.tail _ (.head _)))))))))
theorem wse_yX4_definers : (Cond.selects RX4 yX4_definers yX4_definers) ∈ wsL_law := inR_24 _ (.tail _ (.tail _ (.tail _ (.tail _ (.tail _ (.tail _ (.tail _ (.tail _ (.tail _ (.head _))))))))))
theorem wc_yX4_definers : (Cond.code yX4_definers cX4_definers 2 (some .int)) ∈ wsL_law := inR_24 _ (.tail _ (.tail _ (.tail _ (.tail _ (.tail _ (.tail _ (.tail _ (.tail _ (.tail _ (.tail _ (.head _)))))))))))
theorem wm_RL_98 : (Cond.methodLink RL 98 yX3_runnableCount) ∈ wsL_law := inR_24 _ (.tail _ (.tail _ (.tail _ (.tail _ (.tail _ (.tail _ (.tail _ (.tail _ (.tail _ (.tail _ (.tail _ (.head _))))))))))))
theorem wi_yX3_runnableCount : (Cond.instanceMethod yX3_runnableCount) ∈ wsL_law := inR_24 _ (.tail _ (.tail _ (.tail _ (.tail _ (.tail _ (.tail _ (.tail _ (.tail _ (.tail _ (.tail _ (.tail _ (.tail _ (.head _)))))))))))))
theorem wse_yX3_runnableCount : (Cond.selects RX3 yX3_runnableCount yX3_runnableCount) ∈ wsL_law := inR_24 _ (.tail _ (.tail _ (.tail _ (.tail _ (.tail _ (.tail _ (.tail _ (.tail _ (.tail _ (.tail _ (.tail _ (.tail _ (.tail _ (.head _))))))))))))))
theorem wc_yX3_runnableCount : (Cond.code yX3_runnableCount cX3_runnableCount 1 (some .int)) ∈ wsL_law := inR_24 _ (.tail _ (.tail _ (.tail _ (.tail _ (.tail _ (.tail _ (.tail _ (.tail _ (.tail _ (.tail _ (.tail _ (.tail _ (.tail _ (.tail _ (.head _)))))))))))))))
theorem wm_RL_101 : (Cond.methodLink RL 101 yX4_runnableCount) ∈ wsL_law := inR_24 _ (.tail _ (.tail _ (.tail _ (.tail _ (.tail _ (.tail _ (.tail _ (.tail _ (.tail _ (.tail _ (.tail _ (.tail _ (.tail _ (.tail _ (.tail _ (.head _))))))))))))))))
theorem wi_yX4_runnableCount : (Cond.instanceMethod yX4_runnableCount) ∈ wsL_law := inR_24 _ (.tail _ (.tail _ (.tail _ (.tail _ (.tail _ (.tail _ (.tail _ (.tail _ (.tail _ (.tail _ (.tail _ (.tail _ (.tail _ (.tail _ (.tail _ (.tail _ (.head _)))))))))))))))))
theorem wse_yX4_runnableCount : (Cond.selects RX4 yX4_runnableCount yX4_runnableCount) ∈ wsL_law := inR_24 _ (.tail _ (.tail _ (.tail _ (.tail _ (.tail _ (.tail _ (.tail _ (.tail _ (.tail _ (.tail _ (.tail _ (.tail _ (.tail _ (.tail _ (.tail _ (.tail _ (.tail _ (.head _))))))))))))))))))
theorem wc_yX4_runnableCount : (Cond.code yX4_runnableCount cX4_runnableCount 1 (some .int)) ∈ wsL_law := inR_24 _ (.tail _ (.tail _ (.tail _ (.tail _ (.tail _ (.tail _ (.tail _ (.tail _ (.tail _ (.tail _ (.tail _ (.tail _ (.tail _ (.tail _ (.tail _ (.tail _ (.tail _ (.tail _ (.head _)))))))))))))))))))
theorem wm_RL_102 : (Cond.methodLink RL 102 yX3_runOrder) ∈ wsL_law := inR_24 _ (.tail _ (.tail _ (.tail _ (.tail _ (.tail _ (.tail _ (.tail _ (.tail _ (.tail _ (.tail _ (.tail _ (.tail _ (.tail _ (.tail _ (.tail _ (.tail _ (.tail _ (.tail _ (.tail _ (.head _))))))))))))))))))))
theorem wi_yX3_runOrder : (Cond.instanceMethod yX3_runOrder) ∈ wsL_law := inR_24 _ (.tail _ (.tail _ (.tail _ (.tail _ (.tail _ (.tail _ (.tail _ (.tail _ (.tail _ (.tail _ (.tail _ (.tail _ (.tail _ (.tail _ (.tail _ (.tail _ (.tail _ (.tail _ (.tail _ (.tail _ (.head _)))))))))))))))))))))
theorem wse_yX3_runOrder : (Cond.selects RX3 yX3_runOrder yX3_runOrder) ∈ wsL_law := inR_24 _ (.tail _ (.tail _ (.tail _ (.tail _ (.tail _ (.tail _ (.tail _ (.tail _ (.tail _ (.tail _ (.tail _ (.tail _ (.tail _ (.tail _ (.tail _ (.tail _ (.tail _ (.tail _ (.tail _ (.tail _ (.tail _ (.head _))))))))))))))))))))))
theorem wc_yX3_runOrder : (Cond.code yX3_runOrder cX3_runOrder 2 (some .int)) ∈ wsL_law := inR_24 _ (.tail _ (.tail _ (.tail _ (.tail _ (.tail _ (.tail _ (.tail _ (.tail _ (.tail _ (.tail _ (.tail _ (.tail _ (.tail _ (.tail _ (.tail _ (.tail _ (.tail _ (.tail _ (.tail _ (.tail _ (.tail _ (.tail _ (.head _)))))))))))))))))))))))
theorem wm_RL_105 : (Cond.methodLink RL 105 yX4_runOrder) ∈ wsL_law := inR_24 _ (.tail _ (.tail _ (.tail _ (.tail _ (.tail _ (.tail _ (.tail _ (.tail _ (.tail _ (.tail _ (.tail _ (.tail _ (.tail _ (.tail _ (.tail _ (.tail _ (.tail _ (.tail _ (.tail _ (.tail _ (.tail _ (.tail _ (.tail _ (.head _))))))))))))))))))))))))
theorem wi_yX4_runOrder : (Cond.instanceMethod yX4_runOrder) ∈ wsL_law := inR_25 _ (.head _)
theorem wse_yX4_runOrder : (Cond.selects RX4 yX4_runOrder yX4_runOrder) ∈ wsL_law := inR_25 _ (.tail _ (.head _))
theorem wc_yX4_runOrder : (Cond.code yX4_runOrder cX4_runOrder 2 (some .int)) ∈ wsL_law := inR_25 _ (.tail _ (.tail _ (.head _)))
theorem wm_RL_106 : (Cond.methodLink RL 106 yX3_staleCount) ∈ wsL_law := inR_25 _ (.tail _ (.tail _ (.tail _ (.head _))))
theorem wi_yX3_staleCount : (Cond.instanceMethod yX3_staleCount) ∈ wsL_law := inR_25 _ (.tail _ (.tail _ (.tail _ (.tail _ (.head _)))))
theorem wse_yX3_staleCount : (Cond.selects RX3 yX3_staleCount yX3_staleCount) ∈ wsL_law := inR_25 _ (.tail _ (.tail _ (.tail _ (.tail _ (.tail _ (.head _))))))
theorem wc_yX3_staleCount : (Cond.code yX3_staleCount cX3_staleCount 1 (some .int)) ∈ wsL_law := inR_25 _ (.tail _ (.tail _ (.tail _ (.tail _ (.tail _ (.tail _ (.head _)))))))
theorem wm_RX3_145 : (Cond.methodLink RX3 145 yJ6_bitCount_0f7a4) ∈ wsL_law := inR_25 _ (.tail _ (.tail _ (.tail _ (.tail _ (.tail _ (.tail _ (.tail _ (.head _))))))))
theorem wt_yJ6_bitCount_0f7a4 : (Cond.static yJ6_bitCount_0f7a4) ∈ wsL_law := inR_25 _ (.tail _ (.tail _ (.tail _ (.tail _ (.tail _ (.tail _ (.tail _ (.tail _ (.head _)))))))))
theorem wn_RJ6 : (Cond.initialized RJ6) ∈ wsL_law := inR_25 _ (.tail _ (.tail _ (.tail _ (.tail _ (.tail _ (.tail _ (.tail _ (.tail _ (.tail _ (.head _))))))))))
theorem wc_yJ6_bitCount_0f7a4 : (Cond.code yJ6_bitCount_0f7a4 cJ6_bitCount_0f7a4 1 (some .int)) ∈ wsL_law := inR_25 _ (.tail _ (.tail _ (.tail _ (.tail _ (.tail _ (.tail _ (.tail _ (.tail _ (.tail _ (.tail _ (.head _)))))))))))
theorem wk_RJ6_265 : (Cond.constant RJ6 265 (1431655765)) ∈ wsL_law := inR_25 _ (.tail _ (.tail _ (.tail _ (.tail _ (.tail _ (.tail _ (.tail _ (.tail _ (.tail _ (.tail _ (.tail _ (.head _))))))))))))
theorem wk_RJ6_266 : (Cond.constant RJ6 266 (858993459)) ∈ wsL_law := inR_25 _ (.tail _ (.tail _ (.tail _ (.tail _ (.tail _ (.tail _ (.tail _ (.tail _ (.tail _ (.tail _ (.tail _ (.tail _ (.head _)))))))))))))
theorem wk_RJ6_267 : (Cond.constant RJ6 267 (252645135)) ∈ wsL_law := inR_25 _ (.tail _ (.tail _ (.tail _ (.tail _ (.tail _ (.tail _ (.tail _ (.tail _ (.tail _ (.tail _ (.tail _ (.tail _ (.tail _ (.head _))))))))))))))
theorem wm_RL_109 : (Cond.methodLink RL 109 yX4_staleCount) ∈ wsL_law := inR_25 _ (.tail _ (.tail _ (.tail _ (.tail _ (.tail _ (.tail _ (.tail _ (.tail _ (.tail _ (.tail _ (.tail _ (.tail _ (.tail _ (.tail _ (.head _)))))))))))))))
theorem wi_yX4_staleCount : (Cond.instanceMethod yX4_staleCount) ∈ wsL_law := inR_25 _ (.tail _ (.tail _ (.tail _ (.tail _ (.tail _ (.tail _ (.tail _ (.tail _ (.tail _ (.tail _ (.tail _ (.tail _ (.tail _ (.tail _ (.tail _ (.head _))))))))))))))))
theorem wse_yX4_staleCount : (Cond.selects RX4 yX4_staleCount yX4_staleCount) ∈ wsL_law := inR_25 _ (.tail _ (.tail _ (.tail _ (.tail _ (.tail _ (.tail _ (.tail _ (.tail _ (.tail _ (.tail _ (.tail _ (.tail _ (.tail _ (.tail _ (.tail _ (.tail _ (.head _)))))))))))))))))
theorem wc_yX4_staleCount : (Cond.code yX4_staleCount cX4_staleCount 3 (some .int)) ∈ wsL_law := inR_25 _ (.tail _ (.tail _ (.tail _ (.tail _ (.tail _ (.tail _ (.tail _ (.tail _ (.tail _ (.tail _ (.tail _ (.tail _ (.tail _ (.tail _ (.tail _ (.tail _ (.tail _ (.head _))))))))))))))))))
theorem wm_RL_110 : (Cond.methodLink RL 110 yX3_undo) ∈ wsL_law := inR_25 _ (.tail _ (.tail _ (.tail _ (.tail _ (.tail _ (.tail _ (.tail _ (.tail _ (.tail _ (.tail _ (.tail _ (.tail _ (.tail _ (.tail _ (.tail _ (.tail _ (.tail _ (.tail _ (.head _)))))))))))))))))))
theorem wi_yX3_undo : (Cond.instanceMethod yX3_undo) ∈ wsL_law := inR_25 _ (.tail _ (.tail _ (.tail _ (.tail _ (.tail _ (.tail _ (.tail _ (.tail _ (.tail _ (.tail _ (.tail _ (.tail _ (.tail _ (.tail _ (.tail _ (.tail _ (.tail _ (.tail _ (.tail _ (.head _))))))))))))))))))))
theorem wse_yX3_undo : (Cond.selects RX3 yX3_undo yX3_undo) ∈ wsL_law := inR_25 _ (.tail _ (.tail _ (.tail _ (.tail _ (.tail _ (.tail _ (.tail _ (.tail _ (.tail _ (.tail _ (.tail _ (.tail _ (.tail _ (.tail _ (.tail _ (.tail _ (.tail _ (.tail _ (.tail _ (.tail _ (.head _)))))))))))))))))))))
theorem wc_yX3_undo : (Cond.code yX3_undo cX3_undo 1 (some .int)) ∈ wsL_law := inR_25 _ (.tail _ (.tail _ (.tail _ (.tail _ (.tail _ (.tail _ (.tail _ (.tail _ (.tail _ (.tail _ (.tail _ (.tail _ (.tail _ (.tail _ (.tail _ (.tail _ (.tail _ (.tail _ (.tail _ (.tail _ (.tail _ (.head _))))))))))))))))))))))
theorem wm_RL_113 : (Cond.methodLink RL 113 yX4_undo) ∈ wsL_law := inR_25 _ (.tail _ (.tail _ (.tail _ (.tail _ (.tail _ (.tail _ (.tail _ (.tail _ (.tail _ (.tail _ (.tail _ (.tail _ (.tail _ (.tail _ (.tail _ (.tail _ (.tail _ (.tail _ (.tail _ (.tail _ (.tail _ (.tail _ (.head _)))))))))))))))))))))))
theorem wi_yX4_undo : (Cond.instanceMethod yX4_undo) ∈ wsL_law := inR_25 _ (.tail _ (.tail _ (.tail _ (.tail _ (.tail _ (.tail _ (.tail _ (.tail _ (.tail _ (.tail _ (.tail _ (.tail _ (.tail _ (.tail _ (.tail _ (.tail _ (.tail _ (.tail _ (.tail _ (.tail _ (.tail _ (.tail _ (.tail _ (.head _))))))))))))))))))))))))
theorem wse_yX4_undo : (Cond.selects RX4 yX4_undo yX4_undo) ∈ wsL_law := inR_26 _ (.head _)
theorem wc_yX4_undo : (Cond.code yX4_undo cX4_undo 2 (some .int)) ∈ wsL_law := inR_26 _ (.tail _ (.head _))
theorem wm_RL_114 : (Cond.methodLink RL 114 yX3_errorCount) ∈ wsL_law := inR_26 _ (.tail _ (.tail _ (.head _)))
theorem wi_yX3_errorCount : (Cond.instanceMethod yX3_errorCount) ∈ wsL_law := inR_26 _ (.tail _ (.tail _ (.tail _ (.head _))))
theorem wse_yX3_errorCount : (Cond.selects RX3 yX3_errorCount yX3_errorCount) ∈ wsL_law := inR_26 _ (.tail _ (.tail _ (.tail _ (.tail _ (.head _)))))
theorem wc_yX3_errorCount : (Cond.code yX3_errorCount cX3_errorCount 2 (some .int)) ∈ wsL_law := inR_26 _ (.tail _ (.tail _ (.tail _ (.tail _ (.tail _ (.head _))))))
theorem wm_RL_117 : (Cond.methodLink RL 117 yX4_errorCount) ∈ wsL_law := inR_26 _ (.tail _ (.tail _ (.tail _ (.tail _ (.tail _ (.tail _ (.head _)))))))
theorem wi_yX4_errorCount : (Cond.instanceMethod yX4_errorCount) ∈ wsL_law := inR_26 _ (.tail _ (.tail _ (.tail _ (.tail _ (.tail _ (.tail _ (.tail _ (.head _))))))))
theorem wse_yX4_errorCount : (Cond.selects RX4 yX4_errorCount yX4_errorCount) ∈ wsL_law := inR_26 _ (.tail _ (.tail _ (.tail _ (.tail _ (.tail _ (.tail _ (.tail _ (.tail _ (.head _)))))))))
theorem wc_yX4_errorCount : (Cond.code yX4_errorCount cX4_errorCount 2 (some .int)) ∈ wsL_law := inR_26 _ (.tail _ (.tail _ (.tail _ (.tail _ (.tail _ (.tail _ (.tail _ (.tail _ (.tail _ (.head _))))))))))
theorem wm_RL_118 : (Cond.methodLink RL 118 yX3_digest) ∈ wsL_law := inR_26 _ (.tail _ (.tail _ (.tail _ (.tail _ (.tail _ (.tail _ (.tail _ (.tail _ (.tail _ (.tail _ (.head _)))))))))))
theorem wi_yX3_digest : (Cond.instanceMethod yX3_digest) ∈ wsL_law := inR_26 _ (.tail _ (.tail _ (.tail _ (.tail _ (.tail _ (.tail _ (.tail _ (.tail _ (.tail _ (.tail _ (.tail _ (.head _))))))))))))
theorem wse_yX3_digest : (Cond.selects RX3 yX3_digest yX3_digest) ∈ wsL_law := inR_26 _ (.tail _ (.tail _ (.tail _ (.tail _ (.tail _ (.tail _ (.tail _ (.tail _ (.tail _ (.tail _ (.tail _ (.tail _ (.head _)))))))))))))
theorem wc_yX3_digest : (Cond.code yX3_digest cX3_digest 4 (some .long)) ∈ wsL_law := inR_26 _ (.tail _ (.tail _ (.tail _ (.tail _ (.tail _ (.tail _ (.tail _ (.tail _ (.tail _ (.tail _ (.tail _ (.tail _ (.tail _ (.head _))))))))))))))
theorem wk_RX3_157 : (Cond.constantLong RX3 157 (11872)) ∈ wsL_law := inR_26 _ (.tail _ (.tail _ (.tail _ (.tail _ (.tail _ (.tail _ (.tail _ (.tail _ (.tail _ (.tail _ (.tail _ (.tail _ (.tail _ (.tail _ (.head _)))))))))))))))
theorem wm_RX3_159 : (Cond.methodLink RX3 159 yX3_mix) ∈ wsL_law := inR_26 _ (.tail _ (.tail _ (.tail _ (.tail _ (.tail _ (.tail _ (.tail _ (.tail _ (.tail _ (.tail _ (.tail _ (.tail _ (.tail _ (.tail _ (.tail _ (.head _))))))))))))))))
theorem wt_yX3_mix : (Cond.static yX3_mix) ∈ wsL_law := inR_26 _ (.tail _ (.tail _ (.tail _ (.tail _ (.tail _ (.tail _ (.tail _ (.tail _ (.tail _ (.tail _ (.tail _ (.tail _ (.tail _ (.tail _ (.tail _ (.tail _ (.head _)))))))))))))))))
theorem wc_yX3_mix : (Cond.code yX3_mix cX3_mix 4 (some .long)) ∈ wsL_law := inR_26 _ (.tail _ (.tail _ (.tail _ (.tail _ (.tail _ (.tail _ (.tail _ (.tail _ (.tail _ (.tail _ (.tail _ (.tail _ (.tail _ (.tail _ (.tail _ (.tail _ (.tail _ (.head _))))))))))))))))))
theorem wk_RX3_176 : (Cond.constantLong RX3 176 (31)) ∈ wsL_law := inR_26 _ (.tail _ (.tail _ (.tail _ (.tail _ (.tail _ (.tail _ (.tail _ (.tail _ (.tail _ (.tail _ (.tail _ (.tail _ (.tail _ (.tail _ (.tail _ (.tail _ (.tail _ (.tail _ (.head _)))))))))))))))))))
theorem wm_RX3_163 : (Cond.methodLink RX3 163 yX3_mixCell) ∈ wsL_law := inR_26 _ (.tail _ (.tail _ (.tail _ (.tail _ (.tail _ (.tail _ (.tail _ (.tail _ (.tail _ (.tail _ (.tail _ (.tail _ (.tail _ (.tail _ (.tail _ (.tail _ (.tail _ (.tail _ (.tail _ (.head _))))))))))))))))))))
theorem wi_yX3_mixCell : (Cond.instanceMethod yX3_mixCell) ∈ wsL_law := inR_26 _ (.tail _ (.tail _ (.tail _ (.tail _ (.tail _ (.tail _ (.tail _ (.tail _ (.tail _ (.tail _ (.tail _ (.tail _ (.tail _ (.tail _ (.tail _ (.tail _ (.tail _ (.tail _ (.tail _ (.tail _ (.head _)))))))))))))))))))))
theorem wse_yX3_mixCell : (Cond.selects RX3 yX3_mixCell yX3_mixCell) ∈ wsL_law := inR_26 _ (.tail _ (.tail _ (.tail _ (.tail _ (.tail _ (.tail _ (.tail _ (.tail _ (.tail _ (.tail _ (.tail _ (.tail _ (.tail _ (.tail _ (.tail _ (.tail _ (.tail _ (.tail _ (.tail _ (.tail _ (.tail _ (.head _))))))))))))))))))))))
theorem wc_yX3_mixCell : (Cond.code yX3_mixCell cX3_mixCell 7 (some .long)) ∈ wsL_law := inR_26 _ (.tail _ (.tail _ (.tail _ (.tail _ (.tail _ (.tail _ (.tail _ (.tail _ (.tail _ (.tail _ (.tail _ (.tail _ (.tail _ (.tail _ (.tail _ (.tail _ (.tail _ (.tail _ (.tail _ (.tail _ (.tail _ (.tail _ (.head _)))))))))))))))))))))))
theorem wm_RL_122 : (Cond.methodLink RL 122 yX4_digest) ∈ wsL_law := inR_26 _ (.tail _ (.tail _ (.tail _ (.tail _ (.tail _ (.tail _ (.tail _ (.tail _ (.tail _ (.tail _ (.tail _ (.tail _ (.tail _ (.tail _ (.tail _ (.tail _ (.tail _ (.tail _ (.tail _ (.tail _ (.tail _ (.tail _ (.tail _ (.head _))))))))))))))))))))))))
theorem wi_yX4_digest : (Cond.instanceMethod yX4_digest) ∈ wsL_law := inR_27 _ (.head _)
theorem wse_yX4_digest : (Cond.selects RX4 yX4_digest yX4_digest) ∈ wsL_law := inR_27 _ (.tail _ (.head _))
theorem wc_yX4_digest : (Cond.code yX4_digest cX4_digest 2 (some .long)) ∈ wsL_law := inR_27 _ (.tail _ (.tail _ (.head _)))
theorem wk_RX4_158 : (Cond.constantLong RX4 158 (11872)) ∈ wsL_law := inR_27 _ (.tail _ (.tail _ (.tail _ (.head _))))
theorem wf_RX4_150 : (Cond.fieldLink RX4 150 "ReactiveNotebookModel" "hash" "J") ∈ wsL_law := inR_27 _ (.tail _ (.tail _ (.tail _ (.tail _ (.head _)))))
theorem wm_RX4_154 : (Cond.methodLink RX4 154 yX4_mix) ∈ wsL_law := inR_27 _ (.tail _ (.tail _ (.tail _ (.tail _ (.tail _ (.head _))))))
theorem wi_yX4_mix : (Cond.instanceMethod yX4_mix) ∈ wsL_law := inR_27 _ (.tail _ (.tail _ (.tail _ (.tail _ (.tail _ (.tail _ (.head _)))))))
theorem wse_yX4_mix : (Cond.selects RX4 yX4_mix yX4_mix) ∈ wsL_law := inR_27 _ (.tail _ (.tail _ (.tail _ (.tail _ (.tail _ (.tail _ (.tail _ (.head _))))))))
theorem wc_yX4_mix : (Cond.code yX4_mix cX4_mix 3 none) ∈ wsL_law := inR_27 _ (.tail _ (.tail _ (.tail _ (.tail _ (.tail _ (.tail _ (.tail _ (.tail _ (.head _)))))))))
theorem wk_RX4_148 : (Cond.constantLong RX4 148 (31)) ∈ wsL_law := inR_27 _ (.tail _ (.tail _ (.tail _ (.tail _ (.tail _ (.tail _ (.tail _ (.tail _ (.tail _ (.head _))))))))))
theorem wm_RX4_160 : (Cond.methodLink RX4 160 yX4_mixCell) ∈ wsL_law := inR_27 _ (.tail _ (.tail _ (.tail _ (.tail _ (.tail _ (.tail _ (.tail _ (.tail _ (.tail _ (.tail _ (.head _)))))))))))
theorem wi_yX4_mixCell : (Cond.instanceMethod yX4_mixCell) ∈ wsL_law := inR_27 _ (.tail _ (.tail _ (.tail _ (.tail _ (.tail _ (.tail _ (.tail _ (.tail _ (.tail _ (.tail _ (.tail _ (.head _))))))))))))
theorem wse_yX4_mixCell : (Cond.selects RX4 yX4_mixCell yX4_mixCell) ∈ wsL_law := inR_27 _ (.tail _ (.tail _ (.tail _ (.tail _ (.tail _ (.tail _ (.tail _ (.tail _ (.tail _ (.tail _ (.tail _ (.tail _ (.head _)))))))))))))
theorem wc_yX4_mixCell : (Cond.code yX4_mixCell cX4_mixCell 3 none) ∈ wsL_law := inR_27 _ (.tail _ (.tail _ (.tail _ (.tail _ (.tail _ (.tail _ (.tail _ (.tail _ (.tail _ (.tail _ (.tail _ (.tail _ (.tail _ (.head _))))))))))))))
end
section
/-! ===== gW: the machine at a frame, the heap told by a value x (HP x H), the locals by a list ===== -/
def gW {X : Type} (p : Program) (l : Launch) (e : Env) (R : Room) (s : State) (m : MethodId) (args : Array Value) (below : List Frame) (meth : Method) (c : Code) (HP : X → Heap → Prop) (A : Nat → Prop) (ck cn : Nat) (Q : State → Prop) (x : X) (pc : Nat) (lv : List (Nat × Value)) (st : List Value) : Prop :=
  ∀ (H : Heap) (locs : List Loc) (ls : Array Slot), HP x H → va_S A s.heap H locs → lv_has ls c.maxLocals lv → W p l e R s m args below meth c H locs ck cn Q (F0 m pc ls st)
/-- the code that runs -/
def gX (p : Program) (c : Code) (cc : ByteArray) (nL : Nat) : Prop := p.tables.exec = Jvm.exec ∧ c.code = cc ∧ c.maxLocals = nL
section GW
variable {p : Program} {l : Launch} {e : Env} {R : Room} {s : State} {m : MethodId} {args : Array Value} {below : List Frame} {meth : Method} {c : Code} {X : Type} {HP : X → Heap → Prop} {A : Nat → Prop} {ck cn : Nat} {Q : State → Prop} {x : X} {pc pc' : Nat} {lv : List (Nat × Value)} {st : List Value} {cc : ByteArray} {nL : Nat}
theorem gx_sub {lv' : List (Nat × Value)} (ks : List Nat) (h : lv_pick lv ks = lv') (kk : gW p l e R s m args below meth c HP A ck cn Q x pc lv' st) : gW p l e R s m args below meth c HP A ck cn Q x pc lv st := fun H locs ls h1 h2 h3 => kk H locs ls h1 h2 (lv_sub h3 ks h)
theorem gx_topi {a b : Int32} (h : a = b) (kk : gW p l e R s m args below meth c HP A ck cn Q x pc lv (.int b :: st)) : gW p l e R s m args below meth c HP A ck cn Q x pc lv (.int a :: st) := by rw [h]; exact kk
theorem gx_topr {a b : Nat} (h : a = b) (kk : gW p l e R s m args below meth c HP A ck cn Q x pc lv (.ref b :: st)) : gW p l e R s m args below meth c HP A ck cn Q x pc lv (.ref a :: st) := by rw [h]; exact kk
theorem gx_store {y : X} (h : x = y) (kk : gW p l e R s m args below meth c HP A ck cn Q y pc lv st) : gW p l e R s m args below meth c HP A ck cn Q x pc lv st := by rw [h]; exact kk

theorem gx_iconst (hX : gX p c cc nL) {n : Int} {v : Int32} (hdg : decode cc pc = .ok (.iconst n, 1)) (hp : pc + 1 = pc') (hv : Int32.ofInt n = v) (kk : gW p l e R s m args below meth c HP A ck cn Q x pc' lv (.int v :: st)) : gW p l e R s m args below meth c HP A ck cn Q x pc lv st := by
  subst hp
  intro H locs ls h1 h2 h3
  exact lv_iconst hX.1 hX.2.1 hdg hv (kk H locs ls h1 h2 h3)
theorem gx_bipush (hX : gX p c cc nL) {n : Int} {v : Int32} (hdg : decode cc pc = .ok (.bipush n, 2)) (hp : pc + 2 = pc') (hv : (Int8.ofInt n).toInt32 = v) (kk : gW p l e R s m args below meth c HP A ck cn Q x pc' lv (.int v :: st)) : gW p l e R s m args below meth c HP A ck cn Q x pc lv st := by
  subst hp
  intro H locs ls h1 h2 h3
  exact lv_bipush hX.1 hX.2.1 hdg hv (kk H locs ls h1 h2 h3)
theorem gx_sipush (hX : gX p c cc nL) {n : Int} {v : Int32} (hdg : decode cc pc = .ok (.sipush n, 3)) (hp : pc + 3 = pc') (hv : (Int16.ofInt n).toInt32 = v) (kk : gW p l e R s m args below meth c HP A ck cn Q x pc' lv (.int v :: st)) : gW p l e R s m args below meth c HP A ck cn Q x pc lv st := by
  subst hp
  intro H locs ls h1 h2 h3
  exact lv_sipush hX.1 hX.2.1 hdg hv (kk H locs ls h1 h2 h3)
theorem gx_iload_n (hX : gX p c cc nL) (j : Nat) {k : Fin 4} {v : Int32} (hdg : decode cc pc = .ok (.iload_n k, 1)) (hp : pc + 1 = pc') (hl : lv[j]? = some ((k : Nat), .int v)) (kk : gW p l e R s m args below meth c HP A ck cn Q x pc' lv (.int v :: st)) : gW p l e R s m args below meth c HP A ck cn Q x pc lv st := by
  subst hp
  intro H locs ls h1 h2 h3
  exact lv_iload_n hX.1 hX.2.1 hdg rfl (lv_at h3 j hl) (kk H locs ls h1 h2 h3)
theorem gx_iload (hX : gX p c cc nL) (j : Nat) {k : Nat} {v : Int32} (hdg : decode cc pc = .ok (.iload k, 2)) (hp : pc + 2 = pc') (hl : lv[j]? = some (k, .int v)) (kk : gW p l e R s m args below meth c HP A ck cn Q x pc' lv (.int v :: st)) : gW p l e R s m args below meth c HP A ck cn Q x pc lv st := by
  subst hp
  intro H locs ls h1 h2 h3
  exact lv_iload hX.1 hX.2.1 hdg (lv_at h3 j hl) (kk H locs ls h1 h2 h3)
theorem gx_lload_n (hX : gX p c cc nL) (j : Nat) {k : Fin 4} {v : Int64} (hdg : decode cc pc = .ok (.lload_n k, 1)) (hp : pc + 1 = pc') (hl : lv[j]? = some ((k : Nat), .long v)) (kk : gW p l e R s m args below meth c HP A ck cn Q x pc' lv (.long v :: st)) : gW p l e R s m args below meth c HP A ck cn Q x pc lv st := by
  subst hp
  intro H locs ls h1 h2 h3
  exact lv_lload_n hX.1 hX.2.1 hdg rfl (lv_at h3 j hl) (kk H locs ls h1 h2 h3)
theorem gx_lload (hX : gX p c cc nL) (j : Nat) {k : Nat} {v : Int64} (hdg : decode cc pc = .ok (.lload k, 2)) (hp : pc + 2 = pc') (hl : lv[j]? = some (k, .long v)) (kk : gW p l e R s m args below meth c HP A ck cn Q x pc' lv (.long v :: st)) : gW p l e R s m args below meth c HP A ck cn Q x pc lv st := by
  subst hp
  intro H locs ls h1 h2 h3
  exact lv_lload hX.1 hX.2.1 hdg (lv_at h3 j hl) (kk H locs ls h1 h2 h3)
theorem gx_aload_n (hX : gX p c cc nL) (j : Nat) {k : Fin 4} {v : Nat} (hdg : decode cc pc = .ok (.aload_n k, 1)) (hp : pc + 1 = pc') (hl : lv[j]? = some ((k : Nat), .ref v)) (kk : gW p l e R s m args below meth c HP A ck cn Q x pc' lv (.ref v :: st)) : gW p l e R s m args below meth c HP A ck cn Q x pc lv st := by
  subst hp
  intro H locs ls h1 h2 h3
  exact lv_aload_n hX.1 hX.2.1 hdg rfl (lv_at h3 j hl) (kk H locs ls h1 h2 h3)
theorem gx_aload (hX : gX p c cc nL) (j : Nat) {k : Nat} {v : Nat} (hdg : decode cc pc = .ok (.aload k, 2)) (hp : pc + 2 = pc') (hl : lv[j]? = some (k, .ref v)) (kk : gW p l e R s m args below meth c HP A ck cn Q x pc' lv (.ref v :: st)) : gW p l e R s m args below meth c HP A ck cn Q x pc lv st := by
  subst hp
  intro H locs ls h1 h2 h3
  exact lv_aload hX.1 hX.2.1 hdg (lv_at h3 j hl) (kk H locs ls h1 h2 h3)
theorem gx_istore_n (hX : gX p c cc nL) {lv' : List (Nat × Value)} {k : Fin 4} {v : Int32} (hdg : decode cc pc = .ok (.istore_n k, 1)) (hp : pc + 1 = pc') (hn : (k : Nat) < nL) (hl : ((k : Nat), Value.int v) :: lv.filter (fun q => !(q.1 == (k : Nat)) && !(q.1 + 1 == (k : Nat) && q.2.category == 2)) = lv') (kk : gW p l e R s m args below meth c HP A ck cn Q x pc' lv' st) : gW p l e R s m args below meth c HP A ck cn Q x pc lv (.int v :: st) := by
  subst hp
  intro H locs ls h1 h2 h3
  exact lv_istore_n hX.1 hX.2.1 hdg rfl h3 (by rw [hX.2.2]; exact hn) hl (fun ls' h3' => kk H locs ls' h1 h2 h3')
theorem gx_istore (hX : gX p c cc nL) {lv' : List (Nat × Value)} {k : Nat} {v : Int32} (hdg : decode cc pc = .ok (.istore k, 2)) (hp : pc + 2 = pc') (hn : k < nL) (hl : (k, Value.int v) :: lv.filter (fun q => !(q.1 == k) && !(q.1 + 1 == k && q.2.category == 2)) = lv') (kk : gW p l e R s m args below meth c HP A ck cn Q x pc' lv' st) : gW p l e R s m args below meth c HP A ck cn Q x pc lv (.int v :: st) := by
  subst hp
  intro H locs ls h1 h2 h3
  exact lv_istore hX.1 hX.2.1 hdg h3 (by rw [hX.2.2]; exact hn) hl (fun ls' h3' => kk H locs ls' h1 h2 h3')
theorem gx_astore_n (hX : gX p c cc nL) {lv' : List (Nat × Value)} {k : Fin 4} {v : Nat} (hdg : decode cc pc = .ok (.astore_n k, 1)) (hp : pc + 1 = pc') (hn : (k : Nat) < nL) (hl : ((k : Nat), Value.ref v) :: lv.filter (fun q => !(q.1 == (k : Nat)) && !(q.1 + 1 == (k : Nat) && q.2.category == 2)) = lv') (kk : gW p l e R s m args below meth c HP A ck cn Q x pc' lv' st) : gW p l e R s m args below meth c HP A ck cn Q x pc lv (.ref v :: st) := by
  subst hp
  intro H locs ls h1 h2 h3
  exact lv_astore_n hX.1 hX.2.1 hdg rfl h3 (by rw [hX.2.2]; exact hn) hl (fun ls' h3' => kk H locs ls' h1 h2 h3')
theorem gx_astore (hX : gX p c cc nL) {lv' : List (Nat × Value)} {k : Nat} {v : Nat} (hdg : decode cc pc = .ok (.astore k, 2)) (hp : pc + 2 = pc') (hn : k < nL) (hl : (k, Value.ref v) :: lv.filter (fun q => !(q.1 == k) && !(q.1 + 1 == k && q.2.category == 2)) = lv') (kk : gW p l e R s m args below meth c HP A ck cn Q x pc' lv' st) : gW p l e R s m args below meth c HP A ck cn Q x pc lv (.ref v :: st) := by
  subst hp
  intro H locs ls h1 h2 h3
  exact lv_astore hX.1 hX.2.1 hdg h3 (by rw [hX.2.2]; exact hn) hl (fun ls' h3' => kk H locs ls' h1 h2 h3')
theorem gx_lstore_n (hX : gX p c cc nL) {lv' : List (Nat × Value)} {k : Fin 4} {v : Int64} (hdg : decode cc pc = .ok (.lstore_n k, 1)) (hp : pc + 1 = pc') (hn : (k : Nat) + 1 < nL) (hl : ((k : Nat), Value.long v) :: lv.filter (fun q => !(q.1 == (k : Nat)) && (!(q.1 == (k : Nat) + 1) && !(q.1 + 1 == (k : Nat) && q.2.category == 2))) = lv') (kk : gW p l e R s m args below meth c HP A ck cn Q x pc' lv' st) : gW p l e R s m args below meth c HP A ck cn Q x pc lv (.long v :: st) := by
  subst hp
  intro H locs ls h1 h2 h3
  exact lv_lstore_n hX.1 hX.2.1 hdg rfl h3 (by rw [hX.2.2]; exact hn) hl (fun ls' h3' => kk H locs ls' h1 h2 h3')
theorem gx_lstore (hX : gX p c cc nL) {lv' : List (Nat × Value)} {k : Nat} {v : Int64} (hdg : decode cc pc = .ok (.lstore k, 2)) (hp : pc + 2 = pc') (hn : k + 1 < nL) (hl : (k, Value.long v) :: lv.filter (fun q => !(q.1 == k) && (!(q.1 == k + 1) && !(q.1 + 1 == k && q.2.category == 2))) = lv') (kk : gW p l e R s m args below meth c HP A ck cn Q x pc' lv' st) : gW p l e R s m args below meth c HP A ck cn Q x pc lv (.long v :: st) := by
  subst hp
  intro H locs ls h1 h2 h3
  exact lv_lstore hX.1 hX.2.1 hdg h3 (by rw [hX.2.2]; exact hn) hl (fun ls' h3' => kk H locs ls' h1 h2 h3')
theorem gx_iinc (hX : gX p c cc nL) (j : Nat) {lv' : List (Nat × Value)} {i : Nat} {n : Int} {v w : Int32} (hdg : decode cc pc = .ok (.iinc i n, 3)) (hp : pc + 3 = pc') (hl : lv[j]? = some (i, .int v)) (hv : v + Int32.ofInt n = w) (hn : i < nL) (hlv : (i, Value.int w) :: lv.filter (fun q => !(q.1 == i) && !(q.1 + 1 == i && q.2.category == 2)) = lv') (kk : gW p l e R s m args below meth c HP A ck cn Q x pc' lv' st) : gW p l e R s m args below meth c HP A ck cn Q x pc lv st := by
  subst hp
  intro H locs ls h1 h2 h3
  exact lv_iinc (k := j) hX.1 hX.2.1 hdg h3 hl hv (by rw [hX.2.2]; exact hn) hlv (fun ls' h3' => kk H locs ls' h1 h2 h3')
theorem gx_iadd (hX : gX p c cc nL) {a b : Int32} (hdg : decode cc pc = .ok (.iadd, 1)) (hp : pc + 1 = pc')  (kk : gW p l e R s m args below meth c HP A ck cn Q x pc' lv (.int (a + b) :: st)) : gW p l e R s m args below meth c HP A ck cn Q x pc lv (.int b :: .int a :: st) := by
  subst hp
  intro H locs ls h1 h2 h3
  exact lv_iadd hX.1 hX.2.1 hdg (kk H locs ls h1 h2 h3)
theorem gx_isub (hX : gX p c cc nL) {a b : Int32} (hdg : decode cc pc = .ok (.isub, 1)) (hp : pc + 1 = pc')  (kk : gW p l e R s m args below meth c HP A ck cn Q x pc' lv (.int (a - b) :: st)) : gW p l e R s m args below meth c HP A ck cn Q x pc lv (.int b :: .int a :: st) := by
  subst hp
  intro H locs ls h1 h2 h3
  exact lv_isub hX.1 hX.2.1 hdg (kk H locs ls h1 h2 h3)
theorem gx_imul (hX : gX p c cc nL) {a b : Int32} (hdg : decode cc pc = .ok (.imul, 1)) (hp : pc + 1 = pc')  (kk : gW p l e R s m args below meth c HP A ck cn Q x pc' lv (.int (a * b) :: st)) : gW p l e R s m args below meth c HP A ck cn Q x pc lv (.int b :: .int a :: st) := by
  subst hp
  intro H locs ls h1 h2 h3
  exact lv_imul hX.1 hX.2.1 hdg (kk H locs ls h1 h2 h3)
theorem gx_iand (hX : gX p c cc nL) {a b : Int32} (hdg : decode cc pc = .ok (.iand, 1)) (hp : pc + 1 = pc')  (kk : gW p l e R s m args below meth c HP A ck cn Q x pc' lv (.int (a &&& b) :: st)) : gW p l e R s m args below meth c HP A ck cn Q x pc lv (.int b :: .int a :: st) := by
  subst hp
  intro H locs ls h1 h2 h3
  exact lv_iand hX.1 hX.2.1 hdg (kk H locs ls h1 h2 h3)
theorem gx_ior (hX : gX p c cc nL) {a b : Int32} (hdg : decode cc pc = .ok (.ior, 1)) (hp : pc + 1 = pc')  (kk : gW p l e R s m args below meth c HP A ck cn Q x pc' lv (.int (a ||| b) :: st)) : gW p l e R s m args below meth c HP A ck cn Q x pc lv (.int b :: .int a :: st) := by
  subst hp
  intro H locs ls h1 h2 h3
  exact lv_ior hX.1 hX.2.1 hdg (kk H locs ls h1 h2 h3)
theorem gx_ixor (hX : gX p c cc nL) {a b : Int32} (hdg : decode cc pc = .ok (.ixor, 1)) (hp : pc + 1 = pc')  (kk : gW p l e R s m args below meth c HP A ck cn Q x pc' lv (.int (a ^^^ b) :: st)) : gW p l e R s m args below meth c HP A ck cn Q x pc lv (.int b :: .int a :: st) := by
  subst hp
  intro H locs ls h1 h2 h3
  exact lv_ixor hX.1 hX.2.1 hdg (kk H locs ls h1 h2 h3)
theorem gx_idiv (hX : gX p c cc nL) {a b : Int32} (hdg : decode cc pc = .ok (.idiv, 1)) (hp : pc + 1 = pc') (hne : ¬ b = 0) (kk : gW p l e R s m args below meth c HP A ck cn Q x pc' lv (.int (a / b) :: st)) : gW p l e R s m args below meth c HP A ck cn Q x pc lv (.int b :: .int a :: st) := by
  subst hp
  intro H locs ls h1 h2 h3
  exact lv_idiv hX.1 hX.2.1 hdg hne (kk H locs ls h1 h2 h3)
theorem gx_ishl (hX : gX p c cc nL) {a b : Int32} (hdg : decode cc pc = .ok (.ishl, 1)) (hp : pc + 1 = pc')  (kk : gW p l e R s m args below meth c HP A ck cn Q x pc' lv (.int (a <<< (b &&& 31)) :: st)) : gW p l e R s m args below meth c HP A ck cn Q x pc lv (.int b :: .int a :: st) := by
  subst hp
  intro H locs ls h1 h2 h3
  exact lv_ishl hX.1 hX.2.1 hdg (kk H locs ls h1 h2 h3)
theorem gx_ishr (hX : gX p c cc nL) {a b : Int32} (hdg : decode cc pc = .ok (.ishr, 1)) (hp : pc + 1 = pc')  (kk : gW p l e R s m args below meth c HP A ck cn Q x pc' lv (.int (a >>> (b &&& 31)) :: st)) : gW p l e R s m args below meth c HP A ck cn Q x pc lv (.int b :: .int a :: st) := by
  subst hp
  intro H locs ls h1 h2 h3
  exact lv_ishr hX.1 hX.2.1 hdg (kk H locs ls h1 h2 h3)
theorem gx_iushr (hX : gX p c cc nL) {a b : Int32} (hdg : decode cc pc = .ok (.iushr, 1)) (hp : pc + 1 = pc')  (kk : gW p l e R s m args below meth c HP A ck cn Q x pc' lv (.int (a.toUInt32 >>> (b.toUInt32 &&& Int32.toUInt32 31)).toInt32 :: st)) : gW p l e R s m args below meth c HP A ck cn Q x pc lv (.int b :: .int a :: st) := by
  subst hp
  intro H locs ls h1 h2 h3
  exact lv_iushr hX.1 hX.2.1 hdg rfl (kk H locs ls h1 h2 h3)
theorem gx_ineg (hX : gX p c cc nL) {a : Int32} (hdg : decode cc pc = .ok (.ineg, 1)) (hp : pc + 1 = pc')  (kk : gW p l e R s m args below meth c HP A ck cn Q x pc' lv (.int (-a) :: st)) : gW p l e R s m args below meth c HP A ck cn Q x pc lv (.int a :: st) := by
  subst hp
  intro H locs ls h1 h2 h3
  exact lv_ineg hX.1 hX.2.1 hdg (kk H locs ls h1 h2 h3)
theorem gx_iaddN (hX : gX p c cc nL) {a b : Int32} {i j : Nat} (hdg : decode cc pc = .ok (.iadd, 1)) (hp : pc + 1 = pc') (ha : a = nI i) (hb : b = nI j) (kk : gW p l e R s m args below meth c HP A ck cn Q x pc' lv (.int (nI (i + j)) :: st)) : gW p l e R s m args below meth c HP A ck cn Q x pc lv (.int b :: .int a :: st) := by
  subst hp
  intro H locs ls h1 h2 h3
  subst ha hb
  rw [← nI_add] at kk
  exact lv_iadd hX.1 hX.2.1 hdg (kk H locs ls h1 h2 h3)
theorem gx_imulN (hX : gX p c cc nL) {a b : Int32} {i j : Nat} (hdg : decode cc pc = .ok (.imul, 1)) (hp : pc + 1 = pc') (ha : a = nI i) (hb : b = nI j) (kk : gW p l e R s m args below meth c HP A ck cn Q x pc' lv (.int (nI (i * j)) :: st)) : gW p l e R s m args below meth c HP A ck cn Q x pc lv (.int b :: .int a :: st) := by
  subst hp
  intro H locs ls h1 h2 h3
  subst ha hb
  rw [← pk_mul] at kk
  exact lv_imul hX.1 hX.2.1 hdg (kk H locs ls h1 h2 h3)
theorem gx_isubN (hX : gX p c cc nL) {a b : Int32} {i j : Nat} (hdg : decode cc pc = .ok (.isub, 1)) (hp : pc + 1 = pc') (ha : a = nI i) (hb : b = nI j) (hij : j ≤ i) (kk : gW p l e R s m args below meth c HP A ck cn Q x pc' lv (.int (nI (i - j)) :: st)) : gW p l e R s m args below meth c HP A ck cn Q x pc lv (.int b :: .int a :: st) := by
  subst hp
  intro H locs ls h1 h2 h3
  subst ha hb
  rw [← pk_sub hij] at kk
  exact lv_isub hX.1 hX.2.1 hdg (kk H locs ls h1 h2 h3)
theorem gx_ladd (hX : gX p c cc nL) {a b : Int64} (hdg : decode cc pc = .ok (.ladd, 1)) (hp : pc + 1 = pc')  (kk : gW p l e R s m args below meth c HP A ck cn Q x pc' lv (.long (a + b) :: st)) : gW p l e R s m args below meth c HP A ck cn Q x pc lv (.long b :: .long a :: st) := by
  subst hp
  intro H locs ls h1 h2 h3
  exact lv_ladd hX.1 hX.2.1 hdg (kk H locs ls h1 h2 h3)
theorem gx_lmul (hX : gX p c cc nL) {a b : Int64} (hdg : decode cc pc = .ok (.lmul, 1)) (hp : pc + 1 = pc')  (kk : gW p l e R s m args below meth c HP A ck cn Q x pc' lv (.long (a * b) :: st)) : gW p l e R s m args below meth c HP A ck cn Q x pc lv (.long b :: .long a :: st) := by
  subst hp
  intro H locs ls h1 h2 h3
  exact lv_lmul hX.1 hX.2.1 hdg (kk H locs ls h1 h2 h3)
theorem gx_i2l (hX : gX p c cc nL) {a : Int32} (hdg : decode cc pc = .ok (.i2l, 1)) (hp : pc + 1 = pc')  (kk : gW p l e R s m args below meth c HP A ck cn Q x pc' lv (.long a.toInt64 :: st)) : gW p l e R s m args below meth c HP A ck cn Q x pc lv (.int a :: st) := by
  subst hp
  intro H locs ls h1 h2 h3
  exact lv_i2l hX.1 hX.2.1 hdg rfl (kk H locs ls h1 h2 h3)
theorem gx_lcmp (hX : gX p c cc nL) {a b : Int64} (hdg : decode cc pc = .ok (.lcmp, 1)) (hp : pc + 1 = pc')  (kk : gW p l e R s m args below meth c HP A ck cn Q x pc' lv (.int (lg_cmp a b) :: st)) : gW p l e R s m args below meth c HP A ck cn Q x pc lv (.long b :: .long a :: st) := by
  subst hp
  intro H locs ls h1 h2 h3
  exact W.lcmp hX.1 hX.2.1 hdg (kk H locs ls h1 h2 h3)
theorem gx_dup (hX : gX p c cc nL) {v : Value} (hdg : decode cc pc = .ok (.dup, 1)) (hp : pc + 1 = pc') (hv : v.category = 1) (kk : gW p l e R s m args below meth c HP A ck cn Q x pc' lv (v :: v :: st)) : gW p l e R s m args below meth c HP A ck cn Q x pc lv (v :: st) := by
  subst hp
  intro H locs ls h1 h2 h3
  exact lv_dup hX.1 hX.2.1 hdg hv (kk H locs ls h1 h2 h3)
theorem gx_dup2 (hX : gX p c cc nL) {v w : Value} (hdg : decode cc pc = .ok (.dup2, 1)) (hp : pc + 1 = pc') (hv : v.category = 1) (hw : w.category = 1) (kk : gW p l e R s m args below meth c HP A ck cn Q x pc' lv (v :: w :: v :: w :: st)) : gW p l e R s m args below meth c HP A ck cn Q x pc lv (v :: w :: st) := by
  subst hp
  intro H locs ls h1 h2 h3
  exact lv_dup2_11 hX.1 hX.2.1 hdg hv hw (kk H locs ls h1 h2 h3)
theorem gx_pop (hX : gX p c cc nL) {v : Value} (hdg : decode cc pc = .ok (.pop, 1)) (hp : pc + 1 = pc') (hv : v.category = 1) (kk : gW p l e R s m args below meth c HP A ck cn Q x pc' lv st) : gW p l e R s m args below meth c HP A ck cn Q x pc lv (v :: st) := by
  subst hp
  intro H locs ls h1 h2 h3
  exact lv_pop hX.1 hX.2.1 hdg hv (kk H locs ls h1 h2 h3)
theorem gx_goto (hX : gX p c cc nL) {off : Int} (hdg : decode cc pc = .ok (.goto off, 3)) (ht : (pc : Int) + off = (pc' : Int)) (kk : gW p l e R s m args below meth c HP A ck cn Q x pc' lv st) : gW p l e R s m args below meth c HP A ck cn Q x pc lv st := fun H locs ls h1 h2 h3 => lv_goto hX.1 hX.2.1 hdg ht (kk H locs ls h1 h2 h3)
theorem gx_if_eq (hX : gX p c cc nL) {x0 : Int32} {off : Int} {tgt : Nat} (hdg : decode cc pc = .ok (.ifCond .eq off, 3)) (ht : (pc : Int) + off = (tgt : Int)) (hp : pc + 3 = pc') (kt : x0 = 0 → gW p l e R s m args below meth c HP A ck cn Q x tgt lv st) (kf : ¬ x0 = 0 → gW p l e R s m args below meth c HP A ck cn Q x pc' lv st) : gW p l e R s m args below meth c HP A ck cn Q x pc lv (.int x0 :: st) := by
  subst hp
  intro H locs ls h1 h2 h3
  exact lv_if_eq hX.1 hX.2.1 hdg ht (fun q => kt q H locs ls h1 h2 h3) (fun q => kf q H locs ls h1 h2 h3)
theorem gx_icmp_eq (hX : gX p c cc nL) {x0 y0 : Int32} {off : Int} {tgt : Nat} (hdg : decode cc pc = .ok (.if_icmp .eq off, 3)) (ht : (pc : Int) + off = (tgt : Int)) (hp : pc + 3 = pc') (kt : x0 = y0 → gW p l e R s m args below meth c HP A ck cn Q x tgt lv st) (kf : ¬ x0 = y0 → gW p l e R s m args below meth c HP A ck cn Q x pc' lv st) : gW p l e R s m args below meth c HP A ck cn Q x pc lv (.int y0 :: .int x0 :: st) := by
  subst hp
  intro H locs ls h1 h2 h3
  exact lv_icmp_eq hX.1 hX.2.1 hdg ht (fun q => kt q H locs ls h1 h2 h3) (fun q => kf q H locs ls h1 h2 h3)
theorem gx_if_ne (hX : gX p c cc nL) {x0 : Int32} {off : Int} {tgt : Nat} (hdg : decode cc pc = .ok (.ifCond .ne off, 3)) (ht : (pc : Int) + off = (tgt : Int)) (hp : pc + 3 = pc') (kt : ¬ x0 = 0 → gW p l e R s m args below meth c HP A ck cn Q x tgt lv st) (kf : x0 = 0 → gW p l e R s m args below meth c HP A ck cn Q x pc' lv st) : gW p l e R s m args below meth c HP A ck cn Q x pc lv (.int x0 :: st) := by
  subst hp
  intro H locs ls h1 h2 h3
  exact lv_if_ne hX.1 hX.2.1 hdg ht (fun q => kt q H locs ls h1 h2 h3) (fun q => kf q H locs ls h1 h2 h3)
theorem gx_icmp_ne (hX : gX p c cc nL) {x0 y0 : Int32} {off : Int} {tgt : Nat} (hdg : decode cc pc = .ok (.if_icmp .ne off, 3)) (ht : (pc : Int) + off = (tgt : Int)) (hp : pc + 3 = pc') (kt : ¬ x0 = y0 → gW p l e R s m args below meth c HP A ck cn Q x tgt lv st) (kf : x0 = y0 → gW p l e R s m args below meth c HP A ck cn Q x pc' lv st) : gW p l e R s m args below meth c HP A ck cn Q x pc lv (.int y0 :: .int x0 :: st) := by
  subst hp
  intro H locs ls h1 h2 h3
  exact lv_icmp_ne hX.1 hX.2.1 hdg ht (fun q => kt q H locs ls h1 h2 h3) (fun q => kf q H locs ls h1 h2 h3)
theorem gx_if_lt (hX : gX p c cc nL) {x0 : Int32} {off : Int} {tgt : Nat} (hdg : decode cc pc = .ok (.ifCond .lt off, 3)) (ht : (pc : Int) + off = (tgt : Int)) (hp : pc + 3 = pc') (kt : x0 < 0 → gW p l e R s m args below meth c HP A ck cn Q x tgt lv st) (kf : ¬ x0 < 0 → gW p l e R s m args below meth c HP A ck cn Q x pc' lv st) : gW p l e R s m args below meth c HP A ck cn Q x pc lv (.int x0 :: st) := by
  subst hp
  intro H locs ls h1 h2 h3
  exact lv_if_lt hX.1 hX.2.1 hdg ht (fun q => kt q H locs ls h1 h2 h3) (fun q => kf q H locs ls h1 h2 h3)
theorem gx_icmp_lt (hX : gX p c cc nL) {x0 y0 : Int32} {off : Int} {tgt : Nat} (hdg : decode cc pc = .ok (.if_icmp .lt off, 3)) (ht : (pc : Int) + off = (tgt : Int)) (hp : pc + 3 = pc') (kt : x0 < y0 → gW p l e R s m args below meth c HP A ck cn Q x tgt lv st) (kf : ¬ x0 < y0 → gW p l e R s m args below meth c HP A ck cn Q x pc' lv st) : gW p l e R s m args below meth c HP A ck cn Q x pc lv (.int y0 :: .int x0 :: st) := by
  subst hp
  intro H locs ls h1 h2 h3
  exact lv_icmp_lt hX.1 hX.2.1 hdg ht (fun q => kt q H locs ls h1 h2 h3) (fun q => kf q H locs ls h1 h2 h3)
theorem gx_if_ge (hX : gX p c cc nL) {x0 : Int32} {off : Int} {tgt : Nat} (hdg : decode cc pc = .ok (.ifCond .ge off, 3)) (ht : (pc : Int) + off = (tgt : Int)) (hp : pc + 3 = pc') (kt : 0 ≤ x0 → gW p l e R s m args below meth c HP A ck cn Q x tgt lv st) (kf : ¬ 0 ≤ x0 → gW p l e R s m args below meth c HP A ck cn Q x pc' lv st) : gW p l e R s m args below meth c HP A ck cn Q x pc lv (.int x0 :: st) := by
  subst hp
  intro H locs ls h1 h2 h3
  exact lv_if_ge hX.1 hX.2.1 hdg ht (fun q => kt q H locs ls h1 h2 h3) (fun q => kf q H locs ls h1 h2 h3)
theorem gx_icmp_ge (hX : gX p c cc nL) {x0 y0 : Int32} {off : Int} {tgt : Nat} (hdg : decode cc pc = .ok (.if_icmp .ge off, 3)) (ht : (pc : Int) + off = (tgt : Int)) (hp : pc + 3 = pc') (kt : y0 ≤ x0 → gW p l e R s m args below meth c HP A ck cn Q x tgt lv st) (kf : ¬ y0 ≤ x0 → gW p l e R s m args below meth c HP A ck cn Q x pc' lv st) : gW p l e R s m args below meth c HP A ck cn Q x pc lv (.int y0 :: .int x0 :: st) := by
  subst hp
  intro H locs ls h1 h2 h3
  exact lv_icmp_ge hX.1 hX.2.1 hdg ht (fun q => kt q H locs ls h1 h2 h3) (fun q => kf q H locs ls h1 h2 h3)
theorem gx_if_gt (hX : gX p c cc nL) {x0 : Int32} {off : Int} {tgt : Nat} (hdg : decode cc pc = .ok (.ifCond .gt off, 3)) (ht : (pc : Int) + off = (tgt : Int)) (hp : pc + 3 = pc') (kt : 0 < x0 → gW p l e R s m args below meth c HP A ck cn Q x tgt lv st) (kf : ¬ 0 < x0 → gW p l e R s m args below meth c HP A ck cn Q x pc' lv st) : gW p l e R s m args below meth c HP A ck cn Q x pc lv (.int x0 :: st) := by
  subst hp
  intro H locs ls h1 h2 h3
  exact lv_if_gt hX.1 hX.2.1 hdg ht (fun q => kt q H locs ls h1 h2 h3) (fun q => kf q H locs ls h1 h2 h3)
theorem gx_icmp_gt (hX : gX p c cc nL) {x0 y0 : Int32} {off : Int} {tgt : Nat} (hdg : decode cc pc = .ok (.if_icmp .gt off, 3)) (ht : (pc : Int) + off = (tgt : Int)) (hp : pc + 3 = pc') (kt : y0 < x0 → gW p l e R s m args below meth c HP A ck cn Q x tgt lv st) (kf : ¬ y0 < x0 → gW p l e R s m args below meth c HP A ck cn Q x pc' lv st) : gW p l e R s m args below meth c HP A ck cn Q x pc lv (.int y0 :: .int x0 :: st) := by
  subst hp
  intro H locs ls h1 h2 h3
  exact lv_icmp_gt hX.1 hX.2.1 hdg ht (fun q => kt q H locs ls h1 h2 h3) (fun q => kf q H locs ls h1 h2 h3)
theorem gx_if_le (hX : gX p c cc nL) {x0 : Int32} {off : Int} {tgt : Nat} (hdg : decode cc pc = .ok (.ifCond .le off, 3)) (ht : (pc : Int) + off = (tgt : Int)) (hp : pc + 3 = pc') (kt : x0 ≤ 0 → gW p l e R s m args below meth c HP A ck cn Q x tgt lv st) (kf : ¬ x0 ≤ 0 → gW p l e R s m args below meth c HP A ck cn Q x pc' lv st) : gW p l e R s m args below meth c HP A ck cn Q x pc lv (.int x0 :: st) := by
  subst hp
  intro H locs ls h1 h2 h3
  exact lv_if_le hX.1 hX.2.1 hdg ht (fun q => kt q H locs ls h1 h2 h3) (fun q => kf q H locs ls h1 h2 h3)
theorem gx_icmp_le (hX : gX p c cc nL) {x0 y0 : Int32} {off : Int} {tgt : Nat} (hdg : decode cc pc = .ok (.if_icmp .le off, 3)) (ht : (pc : Int) + off = (tgt : Int)) (hp : pc + 3 = pc') (kt : x0 ≤ y0 → gW p l e R s m args below meth c HP A ck cn Q x tgt lv st) (kf : ¬ x0 ≤ y0 → gW p l e R s m args below meth c HP A ck cn Q x pc' lv st) : gW p l e R s m args below meth c HP A ck cn Q x pc lv (.int y0 :: .int x0 :: st) := by
  subst hp
  intro H locs ls h1 h2 h3
  exact lv_icmp_le hX.1 hX.2.1 hdg ht (fun q => kt q H locs ls h1 h2 h3) (fun q => kf q H locs ls h1 h2 h3)
theorem gx_if_eq_t (hX : gX p c cc nL) {x0 : Int32} {off : Int} {tgt : Nat} (hdg : decode cc pc = .ok (.ifCond .eq off, 3)) (ht : (pc : Int) + off = (tgt : Int)) (hy : ¬ (¬ x0 = 0)) (kt : gW p l e R s m args below meth c HP A ck cn Q x tgt lv st) : gW p l e R s m args below meth c HP A ck cn Q x pc lv (.int x0 :: st) := gx_if_eq hX hdg ht rfl (fun _ => kt) (fun q => absurd q hy)
theorem gx_if_eq_f (hX : gX p c cc nL) {x0 : Int32} {off : Int} {tgt : Nat} (hdg : decode cc pc = .ok (.ifCond .eq off, 3)) (ht : (pc : Int) + off = (tgt : Int)) (hp : pc + 3 = pc') (hy : ¬ (x0 = 0)) (kf : gW p l e R s m args below meth c HP A ck cn Q x pc' lv st) : gW p l e R s m args below meth c HP A ck cn Q x pc lv (.int x0 :: st) := gx_if_eq hX hdg ht hp (fun q => absurd q hy) (fun _ => kf)
theorem gx_icmp_eq_t (hX : gX p c cc nL) {x0 y0 : Int32} {off : Int} {tgt : Nat} (hdg : decode cc pc = .ok (.if_icmp .eq off, 3)) (ht : (pc : Int) + off = (tgt : Int)) (hy : ¬ (¬ x0 = y0)) (kt : gW p l e R s m args below meth c HP A ck cn Q x tgt lv st) : gW p l e R s m args below meth c HP A ck cn Q x pc lv (.int y0 :: .int x0 :: st) := gx_icmp_eq hX hdg ht rfl (fun _ => kt) (fun q => absurd q hy)
theorem gx_icmp_eq_f (hX : gX p c cc nL) {x0 y0 : Int32} {off : Int} {tgt : Nat} (hdg : decode cc pc = .ok (.if_icmp .eq off, 3)) (ht : (pc : Int) + off = (tgt : Int)) (hp : pc + 3 = pc') (hy : ¬ (x0 = y0)) (kf : gW p l e R s m args below meth c HP A ck cn Q x pc' lv st) : gW p l e R s m args below meth c HP A ck cn Q x pc lv (.int y0 :: .int x0 :: st) := gx_icmp_eq hX hdg ht hp (fun q => absurd q hy) (fun _ => kf)
theorem gx_if_ne_t (hX : gX p c cc nL) {x0 : Int32} {off : Int} {tgt : Nat} (hdg : decode cc pc = .ok (.ifCond .ne off, 3)) (ht : (pc : Int) + off = (tgt : Int)) (hy : ¬ (x0 = 0)) (kt : gW p l e R s m args below meth c HP A ck cn Q x tgt lv st) : gW p l e R s m args below meth c HP A ck cn Q x pc lv (.int x0 :: st) := gx_if_ne hX hdg ht rfl (fun _ => kt) (fun q => absurd q hy)
theorem gx_if_ne_f (hX : gX p c cc nL) {x0 : Int32} {off : Int} {tgt : Nat} (hdg : decode cc pc = .ok (.ifCond .ne off, 3)) (ht : (pc : Int) + off = (tgt : Int)) (hp : pc + 3 = pc') (hy : ¬ (¬ x0 = 0)) (kf : gW p l e R s m args below meth c HP A ck cn Q x pc' lv st) : gW p l e R s m args below meth c HP A ck cn Q x pc lv (.int x0 :: st) := gx_if_ne hX hdg ht hp (fun q => absurd q hy) (fun _ => kf)
theorem gx_icmp_ne_t (hX : gX p c cc nL) {x0 y0 : Int32} {off : Int} {tgt : Nat} (hdg : decode cc pc = .ok (.if_icmp .ne off, 3)) (ht : (pc : Int) + off = (tgt : Int)) (hy : ¬ (x0 = y0)) (kt : gW p l e R s m args below meth c HP A ck cn Q x tgt lv st) : gW p l e R s m args below meth c HP A ck cn Q x pc lv (.int y0 :: .int x0 :: st) := gx_icmp_ne hX hdg ht rfl (fun _ => kt) (fun q => absurd q hy)
theorem gx_icmp_ne_f (hX : gX p c cc nL) {x0 y0 : Int32} {off : Int} {tgt : Nat} (hdg : decode cc pc = .ok (.if_icmp .ne off, 3)) (ht : (pc : Int) + off = (tgt : Int)) (hp : pc + 3 = pc') (hy : ¬ (¬ x0 = y0)) (kf : gW p l e R s m args below meth c HP A ck cn Q x pc' lv st) : gW p l e R s m args below meth c HP A ck cn Q x pc lv (.int y0 :: .int x0 :: st) := gx_icmp_ne hX hdg ht hp (fun q => absurd q hy) (fun _ => kf)
theorem gx_if_lt_t (hX : gX p c cc nL) {x0 : Int32} {off : Int} {tgt : Nat} (hdg : decode cc pc = .ok (.ifCond .lt off, 3)) (ht : (pc : Int) + off = (tgt : Int)) (hy : ¬ (¬ x0 < 0)) (kt : gW p l e R s m args below meth c HP A ck cn Q x tgt lv st) : gW p l e R s m args below meth c HP A ck cn Q x pc lv (.int x0 :: st) := gx_if_lt hX hdg ht rfl (fun _ => kt) (fun q => absurd q hy)
theorem gx_if_lt_f (hX : gX p c cc nL) {x0 : Int32} {off : Int} {tgt : Nat} (hdg : decode cc pc = .ok (.ifCond .lt off, 3)) (ht : (pc : Int) + off = (tgt : Int)) (hp : pc + 3 = pc') (hy : ¬ (x0 < 0)) (kf : gW p l e R s m args below meth c HP A ck cn Q x pc' lv st) : gW p l e R s m args below meth c HP A ck cn Q x pc lv (.int x0 :: st) := gx_if_lt hX hdg ht hp (fun q => absurd q hy) (fun _ => kf)
theorem gx_icmp_lt_t (hX : gX p c cc nL) {x0 y0 : Int32} {off : Int} {tgt : Nat} (hdg : decode cc pc = .ok (.if_icmp .lt off, 3)) (ht : (pc : Int) + off = (tgt : Int)) (hy : ¬ (¬ x0 < y0)) (kt : gW p l e R s m args below meth c HP A ck cn Q x tgt lv st) : gW p l e R s m args below meth c HP A ck cn Q x pc lv (.int y0 :: .int x0 :: st) := gx_icmp_lt hX hdg ht rfl (fun _ => kt) (fun q => absurd q hy)
theorem gx_icmp_lt_f (hX : gX p c cc nL) {x0 y0 : Int32} {off : Int} {tgt : Nat} (hdg : decode cc pc = .ok (.if_icmp .lt off, 3)) (ht : (pc : Int) + off = (tgt : Int)) (hp : pc + 3 = pc') (hy : ¬ (x0 < y0)) (kf : gW p l e R s m args below meth c HP A ck cn Q x pc' lv st) : gW p l e R s m args below meth c HP A ck cn Q x pc lv (.int y0 :: .int x0 :: st) := gx_icmp_lt hX hdg ht hp (fun q => absurd q hy) (fun _ => kf)
theorem gx_if_ge_t (hX : gX p c cc nL) {x0 : Int32} {off : Int} {tgt : Nat} (hdg : decode cc pc = .ok (.ifCond .ge off, 3)) (ht : (pc : Int) + off = (tgt : Int)) (hy : ¬ (¬ 0 ≤ x0)) (kt : gW p l e R s m args below meth c HP A ck cn Q x tgt lv st) : gW p l e R s m args below meth c HP A ck cn Q x pc lv (.int x0 :: st) := gx_if_ge hX hdg ht rfl (fun _ => kt) (fun q => absurd q hy)
theorem gx_if_ge_f (hX : gX p c cc nL) {x0 : Int32} {off : Int} {tgt : Nat} (hdg : decode cc pc = .ok (.ifCond .ge off, 3)) (ht : (pc : Int) + off = (tgt : Int)) (hp : pc + 3 = pc') (hy : ¬ (0 ≤ x0)) (kf : gW p l e R s m args below meth c HP A ck cn Q x pc' lv st) : gW p l e R s m args below meth c HP A ck cn Q x pc lv (.int x0 :: st) := gx_if_ge hX hdg ht hp (fun q => absurd q hy) (fun _ => kf)
theorem gx_icmp_ge_t (hX : gX p c cc nL) {x0 y0 : Int32} {off : Int} {tgt : Nat} (hdg : decode cc pc = .ok (.if_icmp .ge off, 3)) (ht : (pc : Int) + off = (tgt : Int)) (hy : ¬ (¬ y0 ≤ x0)) (kt : gW p l e R s m args below meth c HP A ck cn Q x tgt lv st) : gW p l e R s m args below meth c HP A ck cn Q x pc lv (.int y0 :: .int x0 :: st) := gx_icmp_ge hX hdg ht rfl (fun _ => kt) (fun q => absurd q hy)
theorem gx_icmp_ge_f (hX : gX p c cc nL) {x0 y0 : Int32} {off : Int} {tgt : Nat} (hdg : decode cc pc = .ok (.if_icmp .ge off, 3)) (ht : (pc : Int) + off = (tgt : Int)) (hp : pc + 3 = pc') (hy : ¬ (y0 ≤ x0)) (kf : gW p l e R s m args below meth c HP A ck cn Q x pc' lv st) : gW p l e R s m args below meth c HP A ck cn Q x pc lv (.int y0 :: .int x0 :: st) := gx_icmp_ge hX hdg ht hp (fun q => absurd q hy) (fun _ => kf)
theorem gx_if_gt_t (hX : gX p c cc nL) {x0 : Int32} {off : Int} {tgt : Nat} (hdg : decode cc pc = .ok (.ifCond .gt off, 3)) (ht : (pc : Int) + off = (tgt : Int)) (hy : ¬ (¬ 0 < x0)) (kt : gW p l e R s m args below meth c HP A ck cn Q x tgt lv st) : gW p l e R s m args below meth c HP A ck cn Q x pc lv (.int x0 :: st) := gx_if_gt hX hdg ht rfl (fun _ => kt) (fun q => absurd q hy)
theorem gx_if_gt_f (hX : gX p c cc nL) {x0 : Int32} {off : Int} {tgt : Nat} (hdg : decode cc pc = .ok (.ifCond .gt off, 3)) (ht : (pc : Int) + off = (tgt : Int)) (hp : pc + 3 = pc') (hy : ¬ (0 < x0)) (kf : gW p l e R s m args below meth c HP A ck cn Q x pc' lv st) : gW p l e R s m args below meth c HP A ck cn Q x pc lv (.int x0 :: st) := gx_if_gt hX hdg ht hp (fun q => absurd q hy) (fun _ => kf)
theorem gx_icmp_gt_t (hX : gX p c cc nL) {x0 y0 : Int32} {off : Int} {tgt : Nat} (hdg : decode cc pc = .ok (.if_icmp .gt off, 3)) (ht : (pc : Int) + off = (tgt : Int)) (hy : ¬ (¬ y0 < x0)) (kt : gW p l e R s m args below meth c HP A ck cn Q x tgt lv st) : gW p l e R s m args below meth c HP A ck cn Q x pc lv (.int y0 :: .int x0 :: st) := gx_icmp_gt hX hdg ht rfl (fun _ => kt) (fun q => absurd q hy)
theorem gx_icmp_gt_f (hX : gX p c cc nL) {x0 y0 : Int32} {off : Int} {tgt : Nat} (hdg : decode cc pc = .ok (.if_icmp .gt off, 3)) (ht : (pc : Int) + off = (tgt : Int)) (hp : pc + 3 = pc') (hy : ¬ (y0 < x0)) (kf : gW p l e R s m args below meth c HP A ck cn Q x pc' lv st) : gW p l e R s m args below meth c HP A ck cn Q x pc lv (.int y0 :: .int x0 :: st) := gx_icmp_gt hX hdg ht hp (fun q => absurd q hy) (fun _ => kf)
theorem gx_if_le_t (hX : gX p c cc nL) {x0 : Int32} {off : Int} {tgt : Nat} (hdg : decode cc pc = .ok (.ifCond .le off, 3)) (ht : (pc : Int) + off = (tgt : Int)) (hy : ¬ (¬ x0 ≤ 0)) (kt : gW p l e R s m args below meth c HP A ck cn Q x tgt lv st) : gW p l e R s m args below meth c HP A ck cn Q x pc lv (.int x0 :: st) := gx_if_le hX hdg ht rfl (fun _ => kt) (fun q => absurd q hy)
theorem gx_if_le_f (hX : gX p c cc nL) {x0 : Int32} {off : Int} {tgt : Nat} (hdg : decode cc pc = .ok (.ifCond .le off, 3)) (ht : (pc : Int) + off = (tgt : Int)) (hp : pc + 3 = pc') (hy : ¬ (x0 ≤ 0)) (kf : gW p l e R s m args below meth c HP A ck cn Q x pc' lv st) : gW p l e R s m args below meth c HP A ck cn Q x pc lv (.int x0 :: st) := gx_if_le hX hdg ht hp (fun q => absurd q hy) (fun _ => kf)
theorem gx_icmp_le_t (hX : gX p c cc nL) {x0 y0 : Int32} {off : Int} {tgt : Nat} (hdg : decode cc pc = .ok (.if_icmp .le off, 3)) (ht : (pc : Int) + off = (tgt : Int)) (hy : ¬ (¬ x0 ≤ y0)) (kt : gW p l e R s m args below meth c HP A ck cn Q x tgt lv st) : gW p l e R s m args below meth c HP A ck cn Q x pc lv (.int y0 :: .int x0 :: st) := gx_icmp_le hX hdg ht rfl (fun _ => kt) (fun q => absurd q hy)
theorem gx_icmp_le_f (hX : gX p c cc nL) {x0 y0 : Int32} {off : Int} {tgt : Nat} (hdg : decode cc pc = .ok (.if_icmp .le off, 3)) (ht : (pc : Int) + off = (tgt : Int)) (hp : pc + 3 = pc') (hy : ¬ (x0 ≤ y0)) (kf : gW p l e R s m args below meth c HP A ck cn Q x pc' lv st) : gW p l e R s m args below meth c HP A ck cn Q x pc lv (.int y0 :: .int x0 :: st) := gx_icmp_le hX hdg ht hp (fun q => absurd q hy) (fun _ => kf)
theorem gx_nat_eq (hX : gX p c cc nL) {x0 y0 : Int32} {i j : Nat} {off : Int} {tgt : Nat} (hdg : decode cc pc = .ok (.if_icmp .eq off, 3)) (ht : (pc : Int) + off = (tgt : Int)) (hp : pc + 3 = pc') (hx : x0 = nI i) (hy : y0 = nI j) (hi : i < 2 ^ 31) (hj : j < 2 ^ 31) (kt : i = j → gW p l e R s m args below meth c HP A ck cn Q x tgt lv st) (kf : i ≠ j → gW p l e R s m args below meth c HP A ck cn Q x pc' lv st) : gW p l e R s m args below meth c HP A ck cn Q x pc lv (.int y0 :: .int x0 :: st) := by
  subst hx hy
  have e1 := nI_eq hi hj
  have e2 := nI_ltI hi hj
  have e3 := nI_ltI hj hi
  have e4 := nI_leI hi hj
  have e5 := nI_leI hj hi
  refine gx_icmp_eq hX hdg ht hp (fun q => kt ?_) (fun q => kf ?_)
  all_goals first | exact e1.mp q | exact e2.mp q | exact e3.mp q | exact e4.mp q | exact e5.mp q | (simp only [e1] at q; omega) | (simp only [e2] at q; omega) | (simp only [e3] at q; omega) | (simp only [e4] at q; omega) | (simp only [e5] at q; omega)
theorem gx_nat_ne (hX : gX p c cc nL) {x0 y0 : Int32} {i j : Nat} {off : Int} {tgt : Nat} (hdg : decode cc pc = .ok (.if_icmp .ne off, 3)) (ht : (pc : Int) + off = (tgt : Int)) (hp : pc + 3 = pc') (hx : x0 = nI i) (hy : y0 = nI j) (hi : i < 2 ^ 31) (hj : j < 2 ^ 31) (kt : i ≠ j → gW p l e R s m args below meth c HP A ck cn Q x tgt lv st) (kf : i = j → gW p l e R s m args below meth c HP A ck cn Q x pc' lv st) : gW p l e R s m args below meth c HP A ck cn Q x pc lv (.int y0 :: .int x0 :: st) := by
  subst hx hy
  have e1 := nI_eq hi hj
  have e2 := nI_ltI hi hj
  have e3 := nI_ltI hj hi
  have e4 := nI_leI hi hj
  have e5 := nI_leI hj hi
  refine gx_icmp_ne hX hdg ht hp (fun q => kt ?_) (fun q => kf ?_)
  all_goals first | exact e1.mp q | exact e2.mp q | exact e3.mp q | exact e4.mp q | exact e5.mp q | (simp only [e1] at q; omega) | (simp only [e2] at q; omega) | (simp only [e3] at q; omega) | (simp only [e4] at q; omega) | (simp only [e5] at q; omega)
theorem gx_nat_lt (hX : gX p c cc nL) {x0 y0 : Int32} {i j : Nat} {off : Int} {tgt : Nat} (hdg : decode cc pc = .ok (.if_icmp .lt off, 3)) (ht : (pc : Int) + off = (tgt : Int)) (hp : pc + 3 = pc') (hx : x0 = nI i) (hy : y0 = nI j) (hi : i < 2 ^ 31) (hj : j < 2 ^ 31) (kt : i < j → gW p l e R s m args below meth c HP A ck cn Q x tgt lv st) (kf : j ≤ i → gW p l e R s m args below meth c HP A ck cn Q x pc' lv st) : gW p l e R s m args below meth c HP A ck cn Q x pc lv (.int y0 :: .int x0 :: st) := by
  subst hx hy
  have e1 := nI_eq hi hj
  have e2 := nI_ltI hi hj
  have e3 := nI_ltI hj hi
  have e4 := nI_leI hi hj
  have e5 := nI_leI hj hi
  refine gx_icmp_lt hX hdg ht hp (fun q => kt ?_) (fun q => kf ?_)
  all_goals first | exact e1.mp q | exact e2.mp q | exact e3.mp q | exact e4.mp q | exact e5.mp q | (simp only [e1] at q; omega) | (simp only [e2] at q; omega) | (simp only [e3] at q; omega) | (simp only [e4] at q; omega) | (simp only [e5] at q; omega)
theorem gx_nat_ge (hX : gX p c cc nL) {x0 y0 : Int32} {i j : Nat} {off : Int} {tgt : Nat} (hdg : decode cc pc = .ok (.if_icmp .ge off, 3)) (ht : (pc : Int) + off = (tgt : Int)) (hp : pc + 3 = pc') (hx : x0 = nI i) (hy : y0 = nI j) (hi : i < 2 ^ 31) (hj : j < 2 ^ 31) (kt : j ≤ i → gW p l e R s m args below meth c HP A ck cn Q x tgt lv st) (kf : i < j → gW p l e R s m args below meth c HP A ck cn Q x pc' lv st) : gW p l e R s m args below meth c HP A ck cn Q x pc lv (.int y0 :: .int x0 :: st) := by
  subst hx hy
  have e1 := nI_eq hi hj
  have e2 := nI_ltI hi hj
  have e3 := nI_ltI hj hi
  have e4 := nI_leI hi hj
  have e5 := nI_leI hj hi
  refine gx_icmp_ge hX hdg ht hp (fun q => kt ?_) (fun q => kf ?_)
  all_goals first | exact e1.mp q | exact e2.mp q | exact e3.mp q | exact e4.mp q | exact e5.mp q | (simp only [e1] at q; omega) | (simp only [e2] at q; omega) | (simp only [e3] at q; omega) | (simp only [e4] at q; omega) | (simp only [e5] at q; omega)
theorem gx_nat_gt (hX : gX p c cc nL) {x0 y0 : Int32} {i j : Nat} {off : Int} {tgt : Nat} (hdg : decode cc pc = .ok (.if_icmp .gt off, 3)) (ht : (pc : Int) + off = (tgt : Int)) (hp : pc + 3 = pc') (hx : x0 = nI i) (hy : y0 = nI j) (hi : i < 2 ^ 31) (hj : j < 2 ^ 31) (kt : j < i → gW p l e R s m args below meth c HP A ck cn Q x tgt lv st) (kf : i ≤ j → gW p l e R s m args below meth c HP A ck cn Q x pc' lv st) : gW p l e R s m args below meth c HP A ck cn Q x pc lv (.int y0 :: .int x0 :: st) := by
  subst hx hy
  have e1 := nI_eq hi hj
  have e2 := nI_ltI hi hj
  have e3 := nI_ltI hj hi
  have e4 := nI_leI hi hj
  have e5 := nI_leI hj hi
  refine gx_icmp_gt hX hdg ht hp (fun q => kt ?_) (fun q => kf ?_)
  all_goals first | exact e1.mp q | exact e2.mp q | exact e3.mp q | exact e4.mp q | exact e5.mp q | (simp only [e1] at q; omega) | (simp only [e2] at q; omega) | (simp only [e3] at q; omega) | (simp only [e4] at q; omega) | (simp only [e5] at q; omega)
theorem gx_nat_le (hX : gX p c cc nL) {x0 y0 : Int32} {i j : Nat} {off : Int} {tgt : Nat} (hdg : decode cc pc = .ok (.if_icmp .le off, 3)) (ht : (pc : Int) + off = (tgt : Int)) (hp : pc + 3 = pc') (hx : x0 = nI i) (hy : y0 = nI j) (hi : i < 2 ^ 31) (hj : j < 2 ^ 31) (kt : i ≤ j → gW p l e R s m args below meth c HP A ck cn Q x tgt lv st) (kf : j < i → gW p l e R s m args below meth c HP A ck cn Q x pc' lv st) : gW p l e R s m args below meth c HP A ck cn Q x pc lv (.int y0 :: .int x0 :: st) := by
  subst hx hy
  have e1 := nI_eq hi hj
  have e2 := nI_ltI hi hj
  have e3 := nI_ltI hj hi
  have e4 := nI_leI hi hj
  have e5 := nI_leI hj hi
  refine gx_icmp_le hX hdg ht hp (fun q => kt ?_) (fun q => kf ?_)
  all_goals first | exact e1.mp q | exact e2.mp q | exact e3.mp q | exact e4.mp q | exact e5.mp q | (simp only [e1] at q; omega) | (simp only [e2] at q; omega) | (simp only [e3] at q; omega) | (simp only [e4] at q; omega) | (simp only [e5] at q; omega)
theorem gx_tableIn (hX : gX p c cc nL) {dflt lo hi : Int} {offs : Array Int} {len : Nat} {x0 : Int32} {off : Int} {tgt : Nat} (hdg : decode cc pc = .ok (.tableswitch dflt lo hi offs, len)) (k : Int32) (hx : x0 = k) (h1 : ¬ k.toInt < lo) (h2 : ¬ hi < k.toInt) (ho : offs[(k.toInt - lo).toNat]? = some off) (ht : (pc : Int) + off = (tgt : Int)) (kk : gW p l e R s m args below meth c HP A ck cn Q x tgt lv st) : gW p l e R s m args below meth c HP A ck cn Q x pc lv (.int x0 :: st) := by
  subst hx
  exact fun H locs ls g1 g2 g3 => lv_tableIn hX.1 hX.2.1 hdg h1 h2 ho ht (kk H locs ls g1 g2 g3)
theorem gx_tableOut (hX : gX p c cc nL) {dflt lo hi : Int} {offs : Array Int} {len : Nat} {x0 : Int32} {tgt : Nat} (hdg : decode cc pc = .ok (.tableswitch dflt lo hi offs, len)) (h : x0.toInt < lo ∨ hi < x0.toInt) (ht : (pc : Int) + dflt = (tgt : Int)) (kk : gW p l e R s m args below meth c HP A ck cn Q x tgt lv st) : gW p l e R s m args below meth c HP A ck cn Q x pc lv (.int x0 :: st) := fun H locs ls g1 g2 g3 => lv_tableOut hX.1 hX.2.1 hdg h ht (kk H locs ls g1 g2 g3)
end GW
end
section
/-! ===== the typed store: roles of the cells, ints, references that change, longs ===== -/
theorem gblt {a b : Nat} (h : Nat.blt a b = true) : a < b := Nat.le_of_ble_eq_true h
abbrev gS : Type := (Nat → Nat → Int32) × (Nat → Nat → Nat) × (Nat → Int64)
/-- roles; references that never change; what the machine calls the classes; the four array classes -/
abbrev gL : Type := (Nat → Nat) × (Nat → Nat → Nat) × va_G × ClassId × ClassId × ClassId × ClassId
def gK (Y : gL) (a : Nat) : Nat := Y.1 a
def gF (Y : gL) (a k : Nat) : Nat := Y.2.1 a k
def gD (Y : gL) : va_G := Y.2.2.1
def gTi (Y : gL) : ClassId := Y.2.2.2.1
def gTz (Y : gL) : ClassId := Y.2.2.2.2.1
def gTc (Y : gL) : ClassId := Y.2.2.2.2.2.1
def gTs (Y : gL) : ClassId := Y.2.2.2.2.2.2
def gTy (Y : gL) : List (ClassId × FieldType) := [(gTi Y, .int), (gTz Y, .boolean), (gTc Y, .object RX0), (gTs Y, .object RX2)]
/-- what lies at an address of a role -/
def gE (Y : gL) (f : Nat → Int32) (g : Nat → Nat) (j : Int64) (a : Nat) : Nat → Option va_E
  | 1 => some (.inr (3, [.ref (gF Y a 0), .ref (gF Y a 1), .int (f 2), .ref (gF Y a 3), .ref (gF Y a 4), .int (f 5)]))
  | 2 => some (.inr (1, [.ref (gF Y a 0), .ref (gF Y a 1), .ref (gF Y a 2), .ref (gF Y a 3), .ref (gF Y a 4), .ref (gF Y a 5), .int (f 6)]))
  | 3 => some (.inl (gTs Y, 4, .inr (.inr (.inr (.inr (fun k => some (g k)))))))
  | 4 => some (.inl (gTi Y, 3, .inl f))
  | 5 => some (.inl (gTi Y, 10, .inl f))
  | 6 => some (.inl (gTi Y, 10, .inl f))
  | 7 => some (.inl (gTi Y, 12, .inl f))
  | 8 => some (.inl (gTi Y, 12, .inl f))
  | 9 => some (.inl (gTi Y, 12, .inl f))
  | 10 => some (.inl (gTi Y, 12, .inl f))
  | 11 => some (.inr (2, [.ref (gF Y a 0), .int (f 1), .int (f 2), .int (f 3), .int (f 4), .ref (gF Y a 5), .int (f 6)]))
  | 12 => some (.inl (gTc Y, 12, .inr (.inr (.inr (.inr (fun k => some (g k)))))))
  | 13 => some (.inl (gTi Y, 12, .inl f))
  | 14 => some (.inr (0, [.int (f 0), .int (f 1), .int (f 2), .int (f 3), .int (f 4), .int (f 5), .int (f 6), .int (f 7), .int (f 8)]))
  | 15 => some (.inr (4, [.ref (gF Y a 0), .ref (gF Y a 1), .int (f 2), .ref (gF Y a 3), .ref (gF Y a 4), .ref (gF Y a 5), .ref (gF Y a 6), .ref (gF Y a 7), .int (f 8), .ref (gF Y a 9), .ref (gF Y a 10), .long j]))
  | 16 => some (.inl (gTi Y, 137, .inl f))
  | 17 => some (.inl (gTi Y, 548, .inl f))
  | 18 => some (.inl (gTi Y, 3, .inl f))
  | 19 => some (.inl (gTi Y, 12, .inl f))
  | 20 => some (.inl (gTi Y, 12, .inl f))
  | 21 => some (.inl (gTi Y, 12, .inl f))
  | 22 => some (.inl (gTi Y, 12, .inl f))
  | 23 => some (.inl (gTz Y, 12, .inl f))
  | 24 => some (.inl (gTi Y, 10, .inl f))
  | _ => none
def gEnt (Y : gL) (σ : gS) (a : Nat) : Option va_E := gE Y (σ.1 a) (σ.2.1 a) (σ.2.2 a) a (gK Y a)
def gP (Y : gL) (σ : gS) (H : Heap) : Prop := ∀ (a : Nat) (e : va_E), gEnt Y σ a = some e → va_at (gD Y) vwCl (a, e) H
def gA (Y : gL) : Nat → Prop := fun q => gK Y q ≠ 0
def uI (σ : gS) (a k : Nat) (v : Int32) : gS := (fun b j => if b = a ∧ j = k then v else σ.1 b j, σ.2)
def uG (σ : gS) (a k : Nat) (v : Nat) : gS := (σ.1, fun b j => if b = a ∧ j = k then v else σ.2.1 b j, σ.2.2)
def uJ (σ : gS) (a : Nat) (v : Int64) : gS := (σ.1, σ.2.1, fun b => if b = a then v else σ.2.2 b)
theorem uI_ne {σ : gS} {a k : Nat} {v : Int32} {b : Nat} (h : b ≠ a) : (uI σ a k v).1 b = σ.1 b := by funext j; simp [uI, h]
theorem uG_ne {σ : gS} {a k : Nat} {v : Nat} {b : Nat} (h : b ≠ a) : (uG σ a k v).2.1 b = σ.2.1 b := by funext j; simp [uG, h]
theorem gEnt_I {Y : gL} {σ : gS} {a k : Nat} {v : Int32} {b : Nat} (h : b ≠ a) : gEnt Y (uI σ a k v) b = gEnt Y σ b := by
  unfold gEnt
  rw [uI_ne h]
  rfl
theorem gEnt_G {Y : gL} {σ : gS} {a k : Nat} {v : Nat} {b : Nat} (h : b ≠ a) : gEnt Y (uG σ a k v) b = gEnt Y σ b := by
  unfold gEnt
  rw [uG_ne h]
  rfl
theorem gEnt_J {Y : gL} {σ : gS} {a : Nat} {v : Int64} {b : Nat} (h : b ≠ a) : gEnt Y (uJ σ a v) b = gEnt Y σ b := by
  unfold gEnt
  have e : (uJ σ a v).2.2 b = σ.2.2 b := by simp [uJ, h]
  rw [e]
  rfl
theorem gP_one {Y : gL} {σ : gS} {H : Heap} (hP : gP Y σ H) {a k : Nat} {e : va_E} (hk : gK Y a = k) (he : gE Y (σ.1 a) (σ.2.1 a) (σ.2.2 a) a k = some e) : va_P (gD Y) vwCl [(a, e)] H := by
  intro i q hq
  have hz : i < 1 := (List.getElem?_eq_some_iff.mp hq).1
  rw [show i = 0 by omega] at hq
  cases hq
  exact hP a e (by unfold gEnt; rw [hk]; exact he)
theorem gP_lt {Y : gL} {σ : gS} {H : Heap} (hP : gP Y σ H) {a k : Nat} {e : va_E} (hk : gK Y a = k) (he : gE Y (σ.1 a) (σ.2.1 a) (σ.2.2 a) a k = some e) : a < H.size := (hP a e (by unfold gEnt; rw [hk]; exact he)).lt
/-- the heap changed at one address -/
theorem gP_set {Y : gL} {σ τ : gS} {H H1 : Heap} {a k : Nat} {e : va_E} (hP : gP Y σ H) (hk : gK Y a = k) (he : gE Y (τ.1 a) (τ.2.1 a) (τ.2.2 a) a k = some e) (hne : ∀ b, b ≠ a → gEnt Y τ b = gEnt Y σ b) (h1 : va_at (gD Y) vwCl (a, e) H1) (oq : ∀ q : Nat, q ≠ a → H1[q]? = H[q]?) : gP Y τ H1 := by
  intro b e' hb
  by_cases h : b = a
  · subst h
    unfold gEnt at hb
    rw [hk, he] at hb
    cases hb
    exact h1
  · rw [hne b h] at hb
    exact (hP b e' hb).kept (oq b h)
/-- words of the tables that no list of words holds: private members of a nest mate -/
def gNest : List Cond := [.methodLinkNest RX1 72 yX3_isVariable "ReactiveNotebook", .methodLinkNest RX1 59 yX3_isVariableOperand "ReactiveNotebook", .methodLinkNest RX1 88 yX3_contains "ReactiveNotebook", .methodLinkNest RX2 37 yX0_init "ReactiveNotebook"]
/-- what the machine's tables say -/
def gB (Y : gL) (U : State) : Prop := va_K (gD Y) vwCl (gTy Y) U ∧ (∀ w ∈ gNest, va_Nw w U) ∧ va_AO RX0 U ∧ va_AO RX2 U
theorem gNest_moved {s U : State} (hW : s.WarmedH U.vm) (h : ∀ w ∈ gNest, va_Nw w s) : ∀ w ∈ gNest, va_Nw w U := by
  intro w hw
  have h1 := h w hw
  simp only [gNest, List.mem_cons, List.not_mem_nil, or_false] at hw
  rcases hw with rfl | rfl | rfl | rfl <;> exact va_Nw.warmM hW h1
theorem gB_moved {Y : gL} {s U : State} (hW : s.WarmedH U.vm) (h : gB Y s) : gB Y U := ⟨va_K.moved hW.alike h.1, gNest_moved hW h.2.1, va_AO.moved hW.alike h.2.2.1, va_AO.moved hW.alike h.2.2.2⟩
theorem gB_calling {Y : gL} {U : State} {g : JFrame} {mk : MethodId} {a : Array Value} (h : gB Y U) : gB Y (U.calling g mk a) := ⟨va_K.moved (u := U) (U := U.calling g mk a) (Vm.Alike.refl U.vm) h.1, fun w hw => va_Nw.same (u := U) (U := U.calling g mk a) (by
  simp only [gNest, List.mem_cons, List.not_mem_nil, or_false] at hw
  rcases hw with rfl | rfl | rfl | rfl <;> rfl) rfl (h.2.1 w hw), va_AO.moved (u := U) (U := U.calling g mk a) (Vm.Alike.refl U.vm) h.2.2.1, va_AO.moved (u := U) (U := U.calling g mk a) (Vm.Alike.refl U.vm) h.2.2.2⟩
/-- a method's end: its answer and the store behind it -/
def gQ (Y : gL) (Qr : Option Value → gS → Prop) : Array Value → State → Outcome → State → Prop := fun _ st o t => (∃ (v : Option Value) (τ : gS), o = .returned v ∧ Qr v τ ∧ gP Y τ t.heap) ∧ va_F (gA Y) st t
/-- a method's contract that makes no cell -/
def gM (l : Launch) (y : MethodName) (cc : ByteArray) (nL : Nat) (ret : Option FieldType) (rm : Room) (Y : gL) (al : List Value) (σ : gS) (Qr : Option Value → gS → Prop) : Prop :=
  Met l y (Cond.code y cc nL ret :: wsL_law) rm (va_Pc al (fun U => gP Y σ U.heap ∧ gB Y U)) (gQ Y Qr) 0 0 (gA Y)
def gI (post : Int32 → gS → Prop) : Option Value → gS → Prop := fun v τ => ∃ r : Int32, v = some (.int r) ∧ post r τ
def gJ (post : Int64 → gS → Prop) : Option Value → gS → Prop := fun v τ => ∃ r : Int64, v = some (.long r) ∧ post r τ
def gV (post : gS → Prop) : Option Value → gS → Prop := fun v τ => v = none ∧ post τ
/-- what a walk of a method's body stands on -/
def gOK (p : Program) (s : State) (m : MethodId) (args : Array Value) (meth : Method) (c : Code) (Y : gL) (cc : ByteArray) (nL : Nat) (own : String) (ret : Option FieldType) : Prop :=
  gX p c cc nL ∧ s.vm.findClass own = some m.cls ∧ (∀ w ∈ wsL_law, w.before args s = true) ∧ gB Y s ∧ meth.locks = false ∧ meth.sig.returnType = ret
/-- the world of such a walk -/
abbrev gG (p : Program) (l : Launch) (e : Env) (R : Room) (s : State) (m : MethodId) (args : Array Value) (below : List Frame) (meth : Method) (c : Code) (Y : gL) (Qr : Option Value → gS → Prop) (σ : gS) (pc : Nat) (lv : List (Nat × Value)) (st : List Value) : Prop :=
  gW p l e R s m args below meth c (gP Y) (gA Y) 0 0 (MQ below (gQ Y Qr) args s 0 0 (gA Y)) σ pc lv st
theorem gM.of {l : Launch} {y : MethodName} {cc : ByteArray} {nL : Nat} {ret : Option FieldType} {rm : Room} {Y : gL} {al : List Value} {σ : gS} {Qr : Option Value → gS → Prop} (hy : plainName y.cls = true) (hn : Nat.ble (lg_sl al).length nL = true)
    (body : ∀ (p : Program) (e : Env) (s : State) (m : MethodId) (args : Array Value) (below : List Frame) (meth : Method) (c : Code), gOK p s m args meth c Y cc nL y.cls ret → gG p l e rm s m args below meth c Y Qr σ 0 (lv_args 0 al) []) : gM l y cc nL ret rm Y al σ Qr := by
  refine Met.ofW (cc := cc) (maxL := nL) (ret := ret) hy rfl ?_
  intro p e s m args below meth c s₁ B hml hv
  obtain ⟨rfl, hP, hB⟩ := hv
  have hts := atoms_spec (ws := Cond.code y cc nL ret :: wsL_law) B.pre
  have h := body p e s m al.toArray below meth c ⟨⟨B.exec, B.bytes, hml⟩, findClass_of_methodNamed B.named, fun w hw => hts w (List.mem_cons_of_mem _ hw), hB, B.notSynchronized, B.returns⟩
  have hl := lv_entry al (n := nL) (Nat.le_of_ble_eq_true hn)
  rw [lg_entry_eq]
  exact h s.heap [] _ hP va_S.rf (by rw [hml]; exact hl)
/-- what the tables say of a method that is called -/
def gYV (y : MethodName) (cc : ByteArray) (nL : Nat) (ret : Option FieldType) (n : Nat) : Prop := Cond.code y cc nL ret ∈ wsL_law ∧ Cond.instanceMethod y ∈ wsL_law ∧ Cond.selects y.cls y y ∈ wsL_law ∧ Cond.initialized y.cls ∈ wsL_law ∧ (y.cls ≠ "java/lang/invoke/MethodHandle" ∧ y.cls ≠ "java/lang/invoke/VarHandle" ∧ (parseMethodDescriptor y.desc).map (fun d => d.parameters.length) = some n)
def gYS (y : MethodName) (cc : ByteArray) (nL : Nat) (ret : Option FieldType) (n : Nat) : Prop := Cond.code y cc nL ret ∈ wsL_law ∧ Cond.static y ∈ wsL_law ∧ Cond.initialized y.cls ∈ wsL_law ∧ (y.cls ≠ "java/lang/invoke/MethodHandle" ∧ y.cls ≠ "java/lang/invoke/VarHandle" ∧ (parseMethodDescriptor y.desc).map (fun d => d.parameters.length) = some n)
theorem wsL_all : GoodIn wsL_law wsL_law := fun w h => ⟨h, (wsL_law_gi w h).2⟩
theorem wsL_code {y : MethodName} {cc : ByteArray} {nL : Nat} {ret : Option FieldType} (h : Cond.code y cc nL ret ∈ wsL_law) : GoodIn wsL_law (Cond.code y cc nL ret :: wsL_law) := fun w hw => (List.mem_cons.mp hw).elim (fun e => by rw [e]; exact wsL_all _ h) (wsL_all w)
/-- a callee's room within its caller's -/
def gRmOK (rm R : Room) (nL2 ck cn : Nat) : Bool := Nat.ble (rm.frames + 1) R.frames && (Nat.ble (8 + (nL2 + 11) + rm.locals) R.locals && (Nat.beq rm.cells 0 && (Nat.beq rm.slots 0 && (Nat.ble ck R.cells && Nat.ble cn R.slots))))
theorem gRmOK_spec {rm R : Room} {nL2 ck cn : Nat} (h : gRmOK rm R nL2 ck cn = true) : rm.frames + 1 ≤ R.frames ∧ 8 + (nL2 + 11) + rm.locals ≤ R.locals ∧ rm.cells = 0 ∧ rm.slots = 0 ∧ ck ≤ R.cells ∧ cn ≤ R.slots := by
  unfold gRmOK at h
  simp only [Bool.and_eq_true] at h
  exact ⟨Nat.le_of_ble_eq_true h.1, Nat.le_of_ble_eq_true h.2.1, Nat.eq_of_beq_eq_true h.2.2.1, Nat.eq_of_beq_eq_true h.2.2.2.1, Nat.le_of_ble_eq_true h.2.2.2.2.1, Nat.le_of_ble_eq_true h.2.2.2.2.2⟩
abbrev gRm (f n : Nat) : Room := { frames := f, cells := 0, slots := 0, locals := n }
section GR
variable {p : Program} {l : Launch} {e : Env} {R : Room} {s : State} {m : MethodId} {args : Array Value} {below : List Frame} {meth : Method} {c : Code} {ck cn : Nat} {Q : State → Prop} {σ : gS} {pc pc' : Nat} {lv : List (Nat × Value)} {st st0 : List Value} {cc : ByteArray} {nL : Nat} {Y : gL} {own : String} {ret : Option FieldType} {Qr : Option Value → gS → Prop}
theorem gx_get (hC : gOK p s m args meth c Y cc nL own ret) (j : Nat) {a k ci N idx : Nat} {v : Value} {fs : List Value} {C ref : String} {T : u_T} (hin : ∀ w ∈ u_ws C T N, w ∈ wsL_law) (hlk : Cond.fieldLink own idx ref (T j).2.1 (T j).2.2.1 ∈ wsL_law) (href : ref = (T j).1) (hk : gK Y a = k) (he : gE Y (σ.1 a) (σ.2.1 a) (σ.2.2 a) a k = some (.inr (ci, fs))) (hc : vwCl[ci]? = some (C, T, N)) (hj : Nat.blt j N = true) (hv : fs[j]? = some v) (hdg : decode cc pc = .ok (.getfield idx, 3)) (hp : pc + 3 = pc') (kk : gW p l e R s m args below meth c (gP Y) (gA Y) ck cn Q σ pc' lv (v :: st)) : gW p l e R s m args below meth c (gP Y) (gA Y) ck cn Q σ pc lv (.ref a :: st) := by
  subst hp
  obtain ⟨hX, hown, hts, hB, -, -⟩ := hC
  intro H locs ls h1 h2 h3
  exact va_get hX.1 hX.2.1 hts hin hown hB.1 (gP_one h1 hk he) 0 rfl hc j (gblt hj) (hts _ hlk) (fun _ h9 => by rw [href]; exact h9) hv hdg (kk H locs ls h1 h2 h3)
theorem gx_put (hC : gOK p s m args meth c Y cc nL own ret) (j : Nat) {τ : gS} {a k ci N idx : Nat} {v : Value} {fs : List Value} {C ref : String} {T : u_T} {ty : FieldType} {ty0 : Nat → FieldType} (hin : ∀ w ∈ u_ws C T N, w ∈ wsL_law) (hty : ∀ k, k < N → parseFieldDescriptor (T k).2.2.1 = some (ty0 k)) (hnm : ∀ a, a < N → ∀ b, b < N → a ≠ b → (T a).2.1 ≠ (T b).2.1) (hlk : Cond.fieldLink own idx ref (T j).2.1 (T j).2.2.1 ∈ wsL_law) (href : ref = (T j).1) (hk : gK Y a = k) (hk0 : Nat.blt 0 k = true) (he : gE Y (σ.1 a) (σ.2.1 a) (σ.2.2 a) a k = some (.inr (ci, fs))) (he1 : gE Y (τ.1 a) (τ.2.1 a) (τ.2.2 a) a k = some (.inr (ci, fs.set j v))) (hne : ∀ b, b ≠ a → gEnt Y τ b = gEnt Y σ b) (hc : vwCl[ci]? = some (C, T, N)) (hj : Nat.blt j N = true) (hjl : Nat.blt j fs.length = true) (hfin : (T j).2.2.2 = false) (hd : ty0 j = ty) (hn : narrow ty v = v) (hfit : fits ty v = true) (hdg : decode cc pc = .ok (.putfield idx, 3)) (hp : pc + 3 = pc') (kk : gW p l e R s m args below meth c (gP Y) (gA Y) ck cn Q τ pc' lv st) : gW p l e R s m args below meth c (gP Y) (gA Y) ck cn Q σ pc lv (v :: .ref a :: st) := by
  subst hp
  obtain ⟨hX, hown, hts, hB, -, -⟩ := hC
  have hj' : j < N := gblt hj
  have hjl' : j < fs.length := gblt hjl
  have hd' : parseFieldDescriptor (T j).2.2.1 = some ty := by rw [← hd]; exact hty j hj'
  intro H locs ls h1 h2 h3
  have hP := gP_one h1 hk he
  have hap := va_apart (own := own) hts hin ty0 hty hnm hB.1 hc
  obtain ⟨r, hr1, cell, q1, q2, q3, q4⟩ := hP 0 _ rfl
  have hr : r = (C, T, N) := Option.some.inj (hr1.symm.trans hc)
  subst hr
  obtain ⟨hS, hfc, kC, hkC, hkind⟩ := hB.1.1 ci _ hc
  obtain ⟨cf, kf, fi, f, hi, hsl⟩ := hS j hj'
  have hlay := hts _ (hin _ (u_in_lay hj'))
  unfold u_lay at hlay
  rw [if_neg (by rw [hfin]; decide)] at hlay
  have hst := (u_facts hfc hkC (u_lays hts hin hj') hi).1
  have h6 := u_store hfc hkC hkind hlay hi hd' hn hfit
  refine W.putK hX.1 hX.2.1 (f := f) ⟨hown, hts _ hlk, ⟨_, _, _, by rw [href]; exact hi⟩, hst⟩ (by rw [q2]; exact h6) q1 q3 (by rw [hsl]; exact k2_hasslot (q4 j hj')) rfl rfl hdg fun H' e1 e2 e3 => ?_
  rw [hsl] at e1 ⊢
  refine kk H' _ ls (gP_set h1 hk he1 hne ⟨_, hc, t_OB.to (V := updV (vp_V fs) j v) ⟨_, e1, q2, q3, t_set q4 hap hj' v⟩ (fun i _ => vp_updV_set hjl' v i)⟩ e3) (h2.put e2 e3 ?_) h3
  show gK Y a ≠ 0
  rw [hk]
  have : 0 < k := gblt hk0
  omega
theorem gx_iald (hC : gOK p s m args meth c Y cc nL own ret) {a k n i : Nat} {x : Int32} (hk : gK Y a = k) (he : gE Y (σ.1 a) (σ.2.1 a) (σ.2.2 a) a k = some (.inl (gTi Y, n, .inl (σ.1 a)))) (hx : x = nI i) (hi : i < n) (hn : Nat.blt n 1000 = true) (hdg : decode cc pc = .ok (.iaload, 1)) (hp : pc + 1 = pc') (kk : gW p l e R s m args below meth c (gP Y) (gA Y) ck cn Q σ pc' lv (.int (σ.1 a i) :: st)) : gW p l e R s m args below meth c (gP Y) (gA Y) ck cn Q σ pc lv (.int x :: .ref a :: st) := by
  subst hp hx
  obtain ⟨hX, hown, hts, hB, -, -⟩ := hC
  have hn' : n < 1000 := gblt hn
  intro H locs ls h1 h2 h3
  have h := kk H locs ls h1 h2 h3
  rw [← nI_clamp (n := i) (by omega)] at h
  exact va_iald hX.1 hX.2.1 hB.1 (gP_one h1 hk he) 0 0 rfl rfl (vp_in_nI hi (by omega)) hdg h
theorem gx_zald (hC : gOK p s m args meth c Y cc nL own ret) {a k n i : Nat} {x : Int32} (hk : gK Y a = k) (he : gE Y (σ.1 a) (σ.2.1 a) (σ.2.2 a) a k = some (.inl (gTz Y, n, .inl (σ.1 a)))) (hx : x = nI i) (hi : i < n) (hn : Nat.blt n 1000 = true) (hdg : decode cc pc = .ok (.baload, 1)) (hp : pc + 1 = pc') (kk : gW p l e R s m args below meth c (gP Y) (gA Y) ck cn Q σ pc' lv (.int (σ.1 a i) :: st)) : gW p l e R s m args below meth c (gP Y) (gA Y) ck cn Q σ pc lv (.int x :: .ref a :: st) := by
  subst hp hx
  obtain ⟨hX, hown, hts, hB, -, -⟩ := hC
  have hn' : n < 1000 := gblt hn
  intro H locs ls h1 h2 h3
  have h := kk H locs ls h1 h2 h3
  rw [← nI_clamp (n := i) (by omega)] at h
  exact va_zald hX.1 hX.2.1 hB.1 (gP_one h1 hk he) 0 1 rfl rfl (vp_in_nI hi (by omega)) hdg h
theorem gx_aaldc (hC : gOK p s m args meth c Y cc nL own ret) {a k n i : Nat} {x : Int32} (hk : gK Y a = k) (he : gE Y (σ.1 a) (σ.2.1 a) (σ.2.2 a) a k = some (.inl (gTc Y, n, .inr (.inr (.inr (.inr (fun j => some (σ.2.1 a j)))))))) (hx : x = nI i) (hi : i < n) (hn : Nat.blt n 1000 = true) (hdg : decode cc pc = .ok (.aaload, 1)) (hp : pc + 1 = pc') (kk : gW p l e R s m args below meth c (gP Y) (gA Y) ck cn Q σ pc' lv (.ref (σ.2.1 a i) :: st)) : gW p l e R s m args below meth c (gP Y) (gA Y) ck cn Q σ pc lv (.int x :: .ref a :: st) := by
  subst hp hx
  obtain ⟨hX, hown, hts, hB, -, -⟩ := hC
  have hn' : n < 1000 := gblt hn
  intro H locs ls h1 h2 h3
  have h := kk H locs ls h1 h2 h3
  rw [← nI_clamp (n := i) (by omega)] at h
  exact va_aldq (C := RX0) hX.1 hX.2.1 hB.1 (gP_one h1 hk he) 0 2 rfl rfl (vp_in_nI hi (by omega)) hdg h
theorem gx_aalds (hC : gOK p s m args meth c Y cc nL own ret) {a k n i : Nat} {x : Int32} (hk : gK Y a = k) (he : gE Y (σ.1 a) (σ.2.1 a) (σ.2.2 a) a k = some (.inl (gTs Y, n, .inr (.inr (.inr (.inr (fun j => some (σ.2.1 a j)))))))) (hx : x = nI i) (hi : i < n) (hn : Nat.blt n 1000 = true) (hdg : decode cc pc = .ok (.aaload, 1)) (hp : pc + 1 = pc') (kk : gW p l e R s m args below meth c (gP Y) (gA Y) ck cn Q σ pc' lv (.ref (σ.2.1 a i) :: st)) : gW p l e R s m args below meth c (gP Y) (gA Y) ck cn Q σ pc lv (.int x :: .ref a :: st) := by
  subst hp hx
  obtain ⟨hX, hown, hts, hB, -, -⟩ := hC
  have hn' : n < 1000 := gblt hn
  intro H locs ls h1 h2 h3
  have h := kk H locs ls h1 h2 h3
  rw [← nI_clamp (n := i) (by omega)] at h
  exact va_aldq (C := RX2) hX.1 hX.2.1 hB.1 (gP_one h1 hk he) 0 3 rfl rfl (vp_in_nI hi (by omega)) hdg h
theorem gx_iast (hC : gOK p s m args meth c Y cc nL own ret) {a k n i : Nat} {x v : Int32} (hk : gK Y a = k) (hk0 : Nat.blt 0 k = true) (he : gE Y (σ.1 a) (σ.2.1 a) (σ.2.2 a) a k = some (.inl (gTi Y, n, .inl (σ.1 a)))) (he1 : gE Y ((uI σ a i v).1 a) ((uI σ a i v).2.1 a) ((uI σ a i v).2.2 a) a k = some (.inl (gTi Y, n, .inl ((uI σ a i v).1 a)))) (hx : x = nI i) (hi : i < n) (hn : Nat.blt n 1000 = true) (hdg : decode cc pc = .ok (.iastore, 1)) (hp : pc + 1 = pc') (kk : gW p l e R s m args below meth c (gP Y) (gA Y) ck cn Q (uI σ a i v) pc' lv st) : gW p l e R s m args below meth c (gP Y) (gA Y) ck cn Q σ pc lv (.int v :: .int x :: .ref a :: st) := by
  subst hp hx
  obtain ⟨hX, hown, hts, hB, -, -⟩ := hC
  have hn' : n < 1000 := gblt hn
  intro H locs ls h1 h2 h3
  have hP := gP_one h1 hk he
  have hin : vp_in (nI i) n := vp_in_nI hi (by omega)
  refine W.iast hX.1 hX.2.1 (hP 0 _ rfl) ((hB.1.2 0 _ rfl).1 n (fun j => .int (σ.1 a j))) (fun q => by cases q) (by show ¬ (nI i < 0 ∨ (arrV _ _ _).slots.size ≤ _); rw [arrV_size]; exact hin) rfl rfl hdg fun H1 e z oq => ?_
  refine kk H1 _ ls (gP_set h1 hk he1 (fun b hb => gEnt_I hb) ?_ oq) (h2.put z oq ?_) h3
  · show H1[a]? = some (vp_cell _ _)
    rw [e]
    rw [vp_cell_i, vp_cell_i, arrV_store]
    congr 2
    funext q
    rw [nI_clamp (n := i) (by omega)]
    by_cases hq : q = i
    · subst hq
      simp [updV, uI]
    · simp [updV, uI, hq]
  · show gK Y a ≠ 0
    rw [hk]
    have : 0 < k := gblt hk0
    omega
theorem gx_zast (hC : gOK p s m args meth c Y cc nL own ret) {a k n i : Nat} {x v : Int32} (hk : gK Y a = k) (hk0 : Nat.blt 0 k = true) (he : gE Y (σ.1 a) (σ.2.1 a) (σ.2.2 a) a k = some (.inl (gTz Y, n, .inl (σ.1 a)))) (he1 : gE Y ((uI σ a i v).1 a) ((uI σ a i v).2.1 a) ((uI σ a i v).2.2 a) a k = some (.inl (gTz Y, n, .inl ((uI σ a i v).1 a)))) (hv : narrow .boolean (.int v) = .int v) (hx : x = nI i) (hi : i < n) (hn : Nat.blt n 1000 = true) (hdg : decode cc pc = .ok (.bastore, 1)) (hp : pc + 1 = pc') (kk : gW p l e R s m args below meth c (gP Y) (gA Y) ck cn Q (uI σ a i v) pc' lv st) : gW p l e R s m args below meth c (gP Y) (gA Y) ck cn Q σ pc lv (.int v :: .int x :: .ref a :: st) := by
  subst hp hx
  obtain ⟨hX, hown, hts, hB, -, -⟩ := hC
  have hn' : n < 1000 := gblt hn
  intro H locs ls h1 h2 h3
  have hP := gP_one h1 hk he
  have hin : vp_in (nI i) n := vp_in_nI hi (by omega)
  refine W.zast hX.1 hX.2.1 (hP 0 _ rfl) ((hB.1.2 1 _ rfl).1 n (fun j => .int (σ.1 a j))) (fun q => by cases q) (by show ¬ (nI i < 0 ∨ (arrV _ _ _).slots.size ≤ _); rw [arrV_size]; exact hin) rfl rfl hdg fun H1 e z oq => ?_
  refine kk H1 _ ls (gP_set h1 hk he1 (fun b hb => gEnt_I hb) ?_ oq) (h2.put z oq ?_) h3
  · show H1[a]? = some (vp_cell _ _)
    rw [e, hv]
    rw [vp_cell_i, vp_cell_i, arrV_store]
    congr 2
    funext q
    rw [nI_clamp (n := i) (by omega)]
    by_cases hq : q = i
    · subst hq
      simp [updV, uI]
    · simp [updV, uI, hq]
  · show gK Y a ≠ 0
    rw [hk]
    have : 0 < k := gblt hk0
    omega
theorem gx_aast (hC : gOK p s m args meth c Y cc nL own ret) (t0 : Nat) {a k kv n i v ci N : Nat} {x : Int32} {fs : List Value} {C : String} {T : u_T} {tA : ClassId} (hk : gK Y a = k) (hk0 : Nat.blt 0 k = true) (he : gE Y (σ.1 a) (σ.2.1 a) (σ.2.2 a) a k = some (.inl (tA, n, .inr (.inr (.inr (.inr (fun j => some (σ.2.1 a j)))))))) (he1 : gE Y ((uG σ a i v).1 a) ((uG σ a i v).2.1 a) ((uG σ a i v).2.2 a) a k = some (.inl (tA, n, .inr (.inr (.inr (.inr (fun j => some ((uG σ a i v).2.1 a j)))))))) (ht : (gTy Y)[t0]? = some (tA, .object C)) (hkv : gK Y v = kv) (hev : gE Y (σ.1 v) (σ.2.1 v) (σ.2.2 v) v kv = some (.inr (ci, fs))) (hc : vwCl[ci]? = some (C, T, N)) (hx : x = nI i) (hi : i < n) (hn : Nat.blt n 1000 = true) (hdg : decode cc pc = .ok (.aastore, 1)) (hp : pc + 1 = pc') (kk : gW p l e R s m args below meth c (gP Y) (gA Y) ck cn Q (uG σ a i v) pc' lv st) : gW p l e R s m args below meth c (gP Y) (gA Y) ck cn Q σ pc lv (.ref v :: .int x :: .ref a :: st) := by
  subst hp hx
  obtain ⟨hX, hown, hts, hB, -, -⟩ := hC
  have hn' : n < 1000 := gblt hn
  intro H locs ls h1 h2 h3
  have hP := gP_one h1 hk he
  have hPv := gP_one h1 hkv hev
  have hin : vp_in (nI i) n := vp_in_nI hi (by omega)
  have hcl : (nI i).toNatClampNeg = i := nI_clamp (by omega)
  obtain ⟨r', hr', cellV, g1, g2, g3, -⟩ := hPv 0 _ rfl
  have hcls := (hB.1.1 ci _ hc).2
  obtain ⟨kA, comp, k1, k2, k3, -⟩ := (hB.1.2 t0 _ ht).2
  have hcomp : comp = (gD Y).1 ci := Option.some.inj (k3.symm.trans hcls.1)
  subst hcomp
  obtain ⟨kC, hkC, -⟩ := hcls.2
  refine W.aast hX.1 hX.2.1 (hP 0 _ rfl) (fun q h => by cases h) (fun h => by cases h) k1 k2 rfl hkC ⟨fun q => hin (Or.inl q), by show _ < (arrV _ _ _).slots.size; rw [arrV_size, hcl]; exact hi⟩ g1 (fun q h => by rw [g3] at h; cases h) (by rw [g2]; exact hkC) (by rw [g2]; exact va_assign hcls) rfl rfl hdg fun H1 e z oq => ?_
  refine kk H1 _ ls (gP_set h1 hk he1 (fun b hb => gEnt_G hb) ?_ oq) (h2.put z oq ?_) h3
  · show H1[a]? = some (vp_cell _ _)
    rw [e]
    rw [vp_cell_q, vp_cell_q, arrV_store]
    congr 2
    funext q
    rw [hcl]
    by_cases hq : q = i
    · subst hq
      simp [updV, uG, va_rf]
    · simp [updV, uG, hq]
  · show gK Y a ≠ 0
    rw [hk]
    have : 0 < k := gblt hk0
    omega
theorem gx_ldc2 (hC : gOK p s m args meth c Y cc nL own ret) {A : Nat → Prop} {X : Type} {HP : X → Heap → Prop} {x : X} {idx : Nat} {v : Int64} (hw : Cond.constantLong own idx v ∈ wsL_law) (hdg : decode cc pc = .ok (.ldc2_w idx, 3)) (hp : pc + 3 = pc') (kk : gW p l e R s m args below meth c HP A ck cn Q x pc' lv (.long v :: st)) : gW p l e R s m args below meth c HP A ck cn Q x pc lv st := by
  subst hp
  exact fun H locs ls h1 h2 h3 => lv_ldc2 hC.1.1 hC.1.2.1 hC.2.1 (hC.2.2.1 _ hw) hdg (kk H locs ls h1 h2 h3)
theorem gx_ldcw (hC : gOK p s m args meth c Y cc nL own ret) {A : Nat → Prop} {X : Type} {HP : X → Heap → Prop} {x : X} {idx : Nat} {v : Int32} (hw : Cond.constant own idx v ∈ wsL_law) (hdg : decode cc pc = .ok (.ldc_w idx, 3)) (hp : pc + 3 = pc') (kk : gW p l e R s m args below meth c HP A ck cn Q x pc' lv (.int v :: st)) : gW p l e R s m args below meth c HP A ck cn Q x pc lv st := by
  subst hp
  exact fun H locs ls h1 h2 h3 => lv_ldcw hC.1.1 hC.1.2.1 hC.2.1 (hC.2.2.1 _ hw) hdg (kk H locs ls h1 h2 h3)
theorem gx_iret {post : Int32 → gS → Prop} (hC : gOK p s m args meth c Y cc nL own (some .int)) {v : Int32} (hdg : decode cc pc = .ok (.ireturn, 1)) (hq : post v σ) : gG p l e R s m args below meth c Y (gI post) σ pc lv [.int v] := by
  obtain ⟨hX, -, -, -, hlk, hr⟩ := hC
  intro H locs ls h1 h2 h3
  exact W.iret hX.1 hX.2.1 hr (fun t ht hW => ⟨⟨_, σ, rfl, ⟨v, rfl, hq⟩, by rw [ht]; exact h1⟩, h2.F ht⟩) h2.2.2 hdg (hlocks := hlk)
theorem gx_zret {post : Int32 → gS → Prop} (hC : gOK p s m args meth c Y cc nL own (some .boolean)) {v : Int32} (hv : narrow .boolean (.int v) = .int v) (hdg : decode cc pc = .ok (.ireturn, 1)) (hq : post v σ) : gG p l e R s m args below meth c Y (gI post) σ pc lv [.int v] := by
  obtain ⟨hX, -, -, -, hlk, hr⟩ := hC
  intro H locs ls h1 h2 h3
  exact W.zret hX.1 hX.2.1 hr hv (fun t ht hW => ⟨⟨_, σ, rfl, ⟨v, rfl, hq⟩, by rw [ht]; exact h1⟩, h2.F ht⟩) h2.2.2 hdg (hlocks := hlk)
theorem gx_lret {post : Int64 → gS → Prop} (hC : gOK p s m args meth c Y cc nL own (some .long)) {v : Int64} (hdg : decode cc pc = .ok (.lreturn, 1)) (hq : post v σ) : gG p l e R s m args below meth c Y (gJ post) σ pc lv [.long v] := by
  obtain ⟨hX, -, -, -, hlk, hr⟩ := hC
  intro H locs ls h1 h2 h3
  exact W.lret hX.1 hX.2.1 hr (fun t ht hW => ⟨⟨_, σ, rfl, ⟨v, rfl, hq⟩, by rw [ht]; exact h1⟩, h2.F ht⟩) h2.2.2 hdg (hlocks := hlk)
theorem gx_vret {post : gS → Prop} (hC : gOK p s m args meth c Y cc nL own none) (hdg : decode cc pc = .ok (.return_, 1)) (hq : post σ) : gG p l e R s m args below meth c Y (gV post) σ pc lv [] := by
  obtain ⟨hX, -, -, -, hlk, hr⟩ := hC
  intro H locs ls h1 h2 h3
  exact W.vret hX.1 hX.2.1 hr (fun t ht hW => ⟨⟨_, σ, rfl, ⟨rfl, hq⟩, by rw [ht]; exact h1⟩, h2.F ht⟩) h2.2.2 hdg (hlocks := hlk)
/-- behind a call: its end, and the caller's frame -/
theorem gx_run {mc ms : Nat} {a : Array Value} {Qc : Option Value → gS → Prop} {H : Heap} {locs : List Loc} {ls : Array Slot} {rest : List Value} {A : Nat → Prop} (hr : va_Run p l e R s m args below meth c H locs ck cn mc ms (F0 m pc ls st0) rest (gQ Y Qc a) (gA Y)) (hA : ∀ q, gA Y q → A q) (hS : va_S A s.heap H locs)
    (kk : ∀ (v : Option Value) (τ : gS) (H1 : Heap) (locs1 : List Loc), Qc v τ → gP Y τ H1 → va_S A s.heap H1 locs1 → H.size ≤ H1.size → (∀ q : Nat, q < H.size → ¬ gA Y q → H1[q]? = H[q]?) → W p l e R s m args below meth c H1 locs1 (ck + mc) (cn + ms) Q (F0 m (pc + 3) ls (v.toList ++ rest))) : W p l e R s m args below meth c H locs ck cn Q (F0 m pc ls st0) := by
  intro T hT X'
  obtain ⟨v, st₀, t, T', L, h0, X'', hL, e1, e2, ⟨⟨v', τ, hv, hq, hP⟩, hz, hk⟩, st⟩ := hr T hT X'
  cases hv
  rw [h0] at hz hk
  obtain ⟨t2, a1, b1⟩ := kk v τ T'.heap (locs ++ L) hq (by rw [e1]; exact hP)
    ⟨Nat.le_trans hS.1 (by rw [e1]; exact hz), fun q h1 h2 => by rw [e1, hk q (Nat.lt_of_lt_of_le h1 hS.1) (fun z => h2 (hA q z))]; exact hS.2.1 q h1 h2, fun q hq => by
      rcases List.mem_append.mp hq with h | h
      · exact hS.2.2 q h
      · exact hA _ (hL q h)⟩ (by rw [e1]; exact hz) (fun q h1 h2 => by rw [e1]; exact hk q h1 h2) T' rfl X''
  exact ⟨t2, st t2 a1, b1⟩
theorem gM_blind {Y : gL} {al : List Value} {σ : gS} : FrameBlind (va_Pc al (fun U => gP Y σ U.heap ∧ gB Y U)) := fun a U g mk q => ⟨q.1, q.2.1, gB_calling q.2.2⟩
theorem gx_callV (hC : gOK p s m args meth c Y cc nL own ret) {y : MethodName} {cc2 : ByteArray} {nL2 n idx b k ci N : Nat} {ret2 : Option FieldType} {rm : Room} {As : List Value} {Qc : Option Value → gS → Prop} {fs : List Value} {T : u_T} (hM : gM l y cc2 nL2 ret2 rm Y (.ref b :: As) σ Qc) (hy : gYV y cc2 nL2 ret2 n) (hlk : Cond.methodLink own idx y ∈ wsL_law) (hR : gRmOK rm R nL2 ck cn = true) (hk : gK Y b = k) (he : gE Y (σ.1 b) (σ.2.1 b) (σ.2.2 b) b k = some (.inr (ci, fs))) (hc : vwCl[ci]? = some (y.cls, T, N)) (hst : st0 = As.reverse ++ .ref b :: st) (hn : As.length = n) (hcat : Nat.ble (st.map fun v => v.category).sum 8 = true) (hdg : decode cc pc = .ok (.invokevirtual idx, 3)) (hp : pc + 3 = pc') (kk : ∀ (v : Option Value) (τ : gS), Qc v τ → gW p l e R s m args below meth c (gP Y) (gA Y) ck cn Q τ pc' lv (v.toList ++ st)) : gW p l e R s m args below meth c (gP Y) (gA Y) ck cn Q σ pc lv st0 := by
  subst hp hst
  obtain ⟨hX, hown, hts, hB, -, -⟩ := hC
  obtain ⟨y1, y2, y3, y4, y5⟩ := hy
  obtain ⟨r1, r2, r3, r4, r5, r6⟩ := gRmOK_spec hR
  have hcat' := Nat.le_of_ble_eq_true hcat
  intro H locs ls h1 h2 h3
  have cw : CallW R s args own y.cls idx y cc2 nL2 ret2 (Cond.code y cc2 nL2 ret2 :: wsL_law) rm 0 0 n := ⟨callB_of n hts (wsL_code y1) rfl r3 r4 (hts _ y4) (hts _ hlk) y5 ⟨r1, r2⟩, hts _ y2, hts _ y3⟩
  refine gx_run (mc := 0) (ms := 0) (va_runV (As := As) (rest := st) (b := b) ⟨hX.1, hX.2.1, hX.2.2, hown, hts⟩ hM cw ⟨gM_blind, va_recv hB.1 (gP_one h1 hk he) hc (q0 := 0) rfl, fun U hU hW => ⟨rfl, by rw [hU]; exact h1, gB_moved hW hB⟩⟩ rfl hn (by rw [← hX.2.2]; exact h3.1) rfl (lv_room hcat') hdg ⟨r5, r6⟩) (fun _ h => h) h2 (fun v τ H1 locs1 hq hP hS _ _ => kk v τ hq H1 locs1 ls hP hS h3)
theorem gx_callS (hC : gOK p s m args meth c Y cc nL own ret) {y : MethodName} {cc2 : ByteArray} {nL2 n idx : Nat} {ret2 : Option FieldType} {rm : Room} {As : List Value} {Qc : Option Value → gS → Prop} (hM : gM l y cc2 nL2 ret2 rm Y As σ Qc) (hy : gYS y cc2 nL2 ret2 n) (hlk : Cond.methodLink own idx y ∈ wsL_law) (hR : gRmOK rm R nL2 ck cn = true) (hst : st0 = As.reverse ++ st) (hn : As.length = n) (hcat : Nat.ble (st.map fun v => v.category).sum 8 = true) (hdg : decode cc pc = .ok (.invokestatic idx, 3)) (hp : pc + 3 = pc') (kk : ∀ (v : Option Value) (τ : gS), Qc v τ → gW p l e R s m args below meth c (gP Y) (gA Y) ck cn Q τ pc' lv (v.toList ++ st)) : gW p l e R s m args below meth c (gP Y) (gA Y) ck cn Q σ pc lv st0 := by
  subst hp hst
  obtain ⟨hX, hown, hts, hB, -, -⟩ := hC
  obtain ⟨y1, y2, y4, y5⟩ := hy
  obtain ⟨r1, r2, r3, r4, r5, r6⟩ := gRmOK_spec hR
  have hcat' := Nat.le_of_ble_eq_true hcat
  intro H locs ls h1 h2 h3
  have cw : CallB R s args own idx y cc2 nL2 ret2 (Cond.code y cc2 nL2 ret2 :: wsL_law) rm 0 0 n ∧ (Cond.static y).before args s = true := ⟨callB_of n hts (wsL_code y1) rfl r3 r4 (hts _ y4) (hts _ hlk) y5 ⟨r1, r2⟩, hts _ y2⟩
  refine gx_run (mc := 0) (ms := 0) (va_runS (As := As) (rest := st) ⟨hX.1, hX.2.1, hX.2.2, hown, hts⟩ hM cw ⟨gM_blind, fun U hU hW => ⟨rfl, by rw [hU]; exact h1, gB_moved hW hB⟩⟩ rfl hn (by rw [← hX.2.2]; exact h3.1) rfl (lv_room hcat') hdg ⟨r5, r6⟩) (fun _ h => h) h2 (fun v τ H1 locs1 hq hP hS _ _ => kk v τ hq H1 locs1 ls hP hS h3)
theorem gx_callSN (hC : gOK p s m args meth c Y cc nL own ret) {y : MethodName} {cc2 : ByteArray} {nL2 n idx : Nat} {ret2 : Option FieldType} {rm : Room} {As : List Value} {Qc : Option Value → gS → Prop} (hM : gM l y cc2 nL2 ret2 rm Y As σ Qc) (hy : gYS y cc2 nL2 ret2 n) (hlk : Cond.methodLinkNest own idx y "ReactiveNotebook" ∈ gNest) (hR : gRmOK rm R nL2 ck cn = true) (hst : st0 = As.reverse ++ st) (hn : As.length = n) (hcat : Nat.ble (st.map fun v => v.category).sum 8 = true) (hdg : decode cc pc = .ok (.invokestatic idx, 3)) (hp : pc + 3 = pc') (kk : ∀ (v : Option Value) (τ : gS), Qc v τ → gW p l e R s m args below meth c (gP Y) (gA Y) ck cn Q τ pc' lv (v.toList ++ st)) : gW p l e R s m args below meth c (gP Y) (gA Y) ck cn Q σ pc lv st0 := by
  subst hp hst
  obtain ⟨hX, hown, hts, hB, -, -⟩ := hC
  obtain ⟨y1, y2, y4, y5⟩ := hy
  obtain ⟨r1, r2, r3, r4, r5, r6⟩ := gRmOK_spec hR
  have hcat' := Nat.le_of_ble_eq_true hcat
  intro H locs ls h1 h2 h3
  have cw : va_CN R s args own idx y "ReactiveNotebook" cc2 nL2 ret2 (Cond.code y cc2 nL2 ret2 :: wsL_law) rm 0 0 n ∧ (Cond.static y).before args s = true ∧ True := ⟨va_cnB n hts (wsL_code y1) rfl r3 r4 (hB.2.1 _ hlk) (hts _ y4) y5 ⟨r1, r2⟩, hts _ y2, trivial⟩
  refine gx_run (mc := 0) (ms := 0) (va_runSN (As := As) (rest := st) ⟨hX.1, hX.2.1, hX.2.2, hown, hts⟩ hM cw ⟨gM_blind, fun U hU hW => ⟨rfl, by rw [hU]; exact h1, gB_moved hW hB⟩⟩ rfl hn (by rw [← hX.2.2]; exact h3.1) rfl (lv_room hcat') hdg ⟨r5, r6⟩) (fun _ h => h) h2 (fun v τ H1 locs1 hq hP hS _ _ => kk v τ hq H1 locs1 ls hP hS h3)
theorem gx_ki {post : Int32 → gS → Prop} (kk : ∀ (r : Int32) (τ : gS), post r τ → gW p l e R s m args below meth c (gP Y) (gA Y) ck cn Q τ pc lv (.int r :: st)) : ∀ (v : Option Value) (τ : gS), gI post v τ → gW p l e R s m args below meth c (gP Y) (gA Y) ck cn Q τ pc lv (v.toList ++ st) := by
  rintro v τ ⟨r, rfl, h⟩
  exact kk r τ h
theorem gx_kj {post : Int64 → gS → Prop} (kk : ∀ (r : Int64) (τ : gS), post r τ → gW p l e R s m args below meth c (gP Y) (gA Y) ck cn Q τ pc lv (.long r :: st)) : ∀ (v : Option Value) (τ : gS), gJ post v τ → gW p l e R s m args below meth c (gP Y) (gA Y) ck cn Q τ pc lv (v.toList ++ st) := by
  rintro v τ ⟨r, rfl, h⟩
  exact kk r τ h
theorem gx_kv {post : gS → Prop} (kk : ∀ (τ : gS), post τ → gW p l e R s m args below meth c (gP Y) (gA Y) ck cn Q τ pc lv st) : ∀ (v : Option Value) (τ : gS), gV post v τ → gW p l e R s m args below meth c (gP Y) (gA Y) ck cn Q τ pc lv (v.toList ++ st) := by
  rintro v τ ⟨rfl, h⟩
  exact kk τ h
end GR
end
section
theorem kX0_define : gYV yX0_define cX0_define 5 none 4 := ⟨wc_yX0_define, wi_yX0_define, wse_yX0_define, wn_RX0, by decide +kernel⟩
theorem kX0_copyFrom : gYV yX0_copyFrom cX0_copyFrom 2 none 1 := ⟨wc_yX0_copyFrom, wi_yX0_copyFrom, wse_yX0_copyFrom, wn_RX0, by decide +kernel⟩
theorem kX1_derive : gYV yX1_derive cX1_derive 2 none 1 := ⟨wc_yX1_derive, wi_yX1_derive, wse_yX1_derive, wn_RX1, by decide +kernel⟩
theorem kX1_soleDefinerOf : gYV yX1_soleDefinerOf cX1_soleDefinerOf 2 (some .int) 1 := ⟨wc_yX1_soleDefinerOf, wi_yX1_soleDefinerOf, wse_yX1_soleDefinerOf, wn_RX1, by decide +kernel⟩
theorem kX1_definersOf : gYV yX1_definersOf cX1_definersOf 2 (some .int) 1 := ⟨wc_yX1_definersOf, wi_yX1_definersOf, wse_yX1_definersOf, wn_RX1, by decide +kernel⟩
theorem kX1_clearDefiners : gYV yX1_clearDefiners cX1_clearDefiners 2 none 0 := ⟨wc_yX1_clearDefiners, wi_yX1_clearDefiners, wse_yX1_clearDefiners, wn_RX1, by decide +kernel⟩
theorem kX1_findDefiners : gYV yX1_findDefiners cX1_findDefiners 4 none 1 := ⟨wc_yX1_findDefiners, wi_yX1_findDefiners, wse_yX1_findDefiners, wn_RX1, by decide +kernel⟩
theorem kX1_findDependencies : gYV yX1_findDependencies cX1_findDependencies 3 none 1 := ⟨wc_yX1_findDependencies, wi_yX1_findDependencies, wse_yX1_findDependencies, wn_RX1, by decide +kernel⟩
theorem kX1_dependencyOn : gYV yX1_dependencyOn cX1_dependencyOn 3 (some .int) 1 := ⟨wc_yX1_dependencyOn, wi_yX1_dependencyOn, wse_yX1_dependencyOn, wn_RX1, by decide +kernel⟩
theorem kX1_closeDependencies : gYV yX1_closeDependencies cX1_closeDependencies 4 none 1 := ⟨wc_yX1_closeDependencies, wi_yX1_closeDependencies, wse_yX1_closeDependencies, wn_RX1, by decide +kernel⟩
theorem kX1_findStaticErrors : gYV yX1_findStaticErrors cX1_findStaticErrors 4 none 1 := ⟨wc_yX1_findStaticErrors, wi_yX1_findStaticErrors, wse_yX1_findStaticErrors, wn_RX1, by decide +kernel⟩
theorem kX1_ownError : gYV yX1_ownError cX1_ownError 3 (some .int) 2 := ⟨wc_yX1_ownError, wi_yX1_ownError, wse_yX1_ownError, wn_RX1, by decide +kernel⟩
theorem kX1_isUndefined : gYV yX1_isUndefined cX1_isUndefined 2 (some .boolean) 1 := ⟨wc_yX1_isUndefined, wi_yX1_isUndefined, wse_yX1_isUndefined, wn_RX1, by decide +kernel⟩
theorem kX1_spreadBadInput : gYV yX1_spreadBadInput cX1_spreadBadInput 7 none 2 := ⟨wc_yX1_spreadBadInput, wi_yX1_spreadBadInput, wse_yX1_spreadBadInput, wn_RX1, by decide +kernel⟩
theorem kX1_buildRunOrder : gYV yX1_buildRunOrder cX1_buildRunOrder 5 none 1 := ⟨wc_yX1_buildRunOrder, wi_yX1_buildRunOrder, wse_yX1_buildRunOrder, wn_RX1, by decide +kernel⟩
theorem kX1_lowestReady : gYV yX1_lowestReady cX1_lowestReady 5 (some .int) 2 := ⟨wc_yX1_lowestReady, wi_yX1_lowestReady, wse_yX1_lowestReady, wn_RX1, by decide +kernel⟩
theorem kX2_copyFrom : gYV yX2_copyFrom cX2_copyFrom 3 none 1 := ⟨wc_yX2_copyFrom, wi_yX2_copyFrom, wse_yX2_copyFrom, wn_RX2, by decide +kernel⟩
theorem kX2_append : gYV yX2_append cX2_append 6 none 4 := ⟨wc_yX2_append, wi_yX2_append, wse_yX2_append, wn_RX2, by decide +kernel⟩
theorem kX2_remove : gYV yX2_remove cX2_remove 2 none 1 := ⟨wc_yX2_remove, wi_yX2_remove, wse_yX2_remove, wn_RX2, by decide +kernel⟩
theorem kX2_move : gYV yX2_move cX2_move 5 none 2 := ⟨wc_yX2_move, wi_yX2_move, wse_yX2_move, wn_RX2, by decide +kernel⟩
theorem kX2_recordRun : gYV yX2_recordRun cX2_recordRun 2 none 1 := ⟨wc_yX2_recordRun, wi_yX2_recordRun, wse_yX2_recordRun, wn_RX2, by decide +kernel⟩
theorem kX3_addCell : gYV yX3_addCell cX3_addCell 5 (some .int) 4 := ⟨wc_yX3_addCell, wi_yX3_addCell, wse_yX3_addCell, wn_RX3, by decide +kernel⟩
theorem kX3_editCell : gYV yX3_editCell cX3_editCell 8 (some .int) 5 := ⟨wc_yX3_editCell, wi_yX3_editCell, wse_yX3_editCell, wn_RX3, by decide +kernel⟩
theorem kX3_deleteCell : gYV yX3_deleteCell cX3_deleteCell 2 (some .int) 1 := ⟨wc_yX3_deleteCell, wi_yX3_deleteCell, wse_yX3_deleteCell, wn_RX3, by decide +kernel⟩
theorem kX3_moveCell : gYV yX3_moveCell cX3_moveCell 3 (some .int) 2 := ⟨wc_yX3_moveCell, wi_yX3_moveCell, wse_yX3_moveCell, wn_RX3, by decide +kernel⟩
theorem kX3_setEager : gYV yX3_setEager cX3_setEager 3 (some .int) 1 := ⟨wc_yX3_setEager, wi_yX3_setEager, wse_yX3_setEager, wn_RX3, by decide +kernel⟩
theorem kX3_runStale : gYV yX3_runStale cX3_runStale 1 (some .int) 0 := ⟨wc_yX3_runStale, wi_yX3_runStale, wse_yX3_runStale, wn_RX3, by decide +kernel⟩
theorem kX3_runCell : gYV yX3_runCell cX3_runCell 2 (some .int) 1 := ⟨wc_yX3_runCell, wi_yX3_runCell, wse_yX3_runCell, wn_RX3, by decide +kernel⟩
theorem kX3_lastRunCount : gYV yX3_lastRunCount cX3_lastRunCount 1 (some .int) 0 := ⟨wc_yX3_lastRunCount, wi_yX3_lastRunCount, wse_yX3_lastRunCount, wn_RX3, by decide +kernel⟩
theorem kX3_lastRun : gYV yX3_lastRun cX3_lastRun 2 (some .int) 1 := ⟨wc_yX3_lastRun, wi_yX3_lastRun, wse_yX3_lastRun, wn_RX3, by decide +kernel⟩
theorem kX3_cellCount : gYV yX3_cellCount cX3_cellCount 1 (some .int) 0 := ⟨wc_yX3_cellCount, wi_yX3_cellCount, wse_yX3_cellCount, wn_RX3, by decide +kernel⟩
theorem kX3_variable : gYV yX3_variable cX3_variable 2 (some .int) 1 := ⟨wc_yX3_variable, wi_yX3_variable, wse_yX3_variable, wn_RX3, by decide +kernel⟩
theorem kX3_status : gYV yX3_status cX3_status 2 (some .int) 1 := ⟨wc_yX3_status, wi_yX3_status, wse_yX3_status, wn_RX3, by decide +kernel⟩
theorem kX3_value : gYV yX3_value cX3_value 2 (some .int) 1 := ⟨wc_yX3_value, wi_yX3_value, wse_yX3_value, wn_RX3, by decide +kernel⟩
theorem kX3_valueOf : gYV yX3_valueOf cX3_valueOf 3 (some .int) 1 := ⟨wc_yX3_valueOf, wi_yX3_valueOf, wse_yX3_valueOf, wn_RX3, by decide +kernel⟩
theorem kX3_version : gYV yX3_version cX3_version 2 (some .int) 1 := ⟨wc_yX3_version, wi_yX3_version, wse_yX3_version, wn_RX3, by decide +kernel⟩
theorem kX3_runs : gYV yX3_runs cX3_runs 2 (some .int) 1 := ⟨wc_yX3_runs, wi_yX3_runs, wse_yX3_runs, wn_RX3, by decide +kernel⟩
theorem kX3_totalRuns : gYV yX3_totalRuns cX3_totalRuns 1 (some .int) 0 := ⟨wc_yX3_totalRuns, wi_yX3_totalRuns, wse_yX3_totalRuns, wn_RX3, by decide +kernel⟩
theorem kX3_dependencies : gYV yX3_dependencies cX3_dependencies 2 (some .int) 1 := ⟨wc_yX3_dependencies, wi_yX3_dependencies, wse_yX3_dependencies, wn_RX3, by decide +kernel⟩
theorem kX3_dependents : gYV yX3_dependents cX3_dependents 2 (some .int) 1 := ⟨wc_yX3_dependents, wi_yX3_dependents, wse_yX3_dependents, wn_RX3, by decide +kernel⟩
theorem kX3_definers : gYV yX3_definers cX3_definers 2 (some .int) 1 := ⟨wc_yX3_definers, wi_yX3_definers, wse_yX3_definers, wn_RX3, by decide +kernel⟩
theorem kX3_runnableCount : gYV yX3_runnableCount cX3_runnableCount 1 (some .int) 0 := ⟨wc_yX3_runnableCount, wi_yX3_runnableCount, wse_yX3_runnableCount, wn_RX3, by decide +kernel⟩
theorem kX3_runOrder : gYV yX3_runOrder cX3_runOrder 2 (some .int) 1 := ⟨wc_yX3_runOrder, wi_yX3_runOrder, wse_yX3_runOrder, wn_RX3, by decide +kernel⟩
theorem kX3_staleCount : gYV yX3_staleCount cX3_staleCount 1 (some .int) 0 := ⟨wc_yX3_staleCount, wi_yX3_staleCount, wse_yX3_staleCount, wn_RX3, by decide +kernel⟩
theorem kX3_undo : gYV yX3_undo cX3_undo 1 (some .int) 0 := ⟨wc_yX3_undo, wi_yX3_undo, wse_yX3_undo, wn_RX3, by decide +kernel⟩
theorem kX3_errorCount : gYV yX3_errorCount cX3_errorCount 2 (some .int) 1 := ⟨wc_yX3_errorCount, wi_yX3_errorCount, wse_yX3_errorCount, wn_RX3, by decide +kernel⟩
theorem kX3_digest : gYV yX3_digest cX3_digest 4 (some .long) 0 := ⟨wc_yX3_digest, wi_yX3_digest, wse_yX3_digest, wn_RX3, by decide +kernel⟩
theorem kX3_mixCell : gYV yX3_mixCell cX3_mixCell 7 (some .long) 2 := ⟨wc_yX3_mixCell, wi_yX3_mixCell, wse_yX3_mixCell, wn_RX3, by decide +kernel⟩
theorem kX3_mix : gYS yX3_mix cX3_mix 4 (some .long) 2 := ⟨wc_yX3_mix, wt_yX3_mix, wn_RX3, by decide +kernel⟩
theorem kX3_isCell : gYV yX3_isCell cX3_isCell 2 (some .boolean) 1 := ⟨wc_yX3_isCell, wi_yX3_isCell, wse_yX3_isCell, wn_RX3, by decide +kernel⟩
theorem kX3_isVariable : gYS yX3_isVariable cX3_isVariable 1 (some .boolean) 1 := ⟨wc_yX3_isVariable, wt_yX3_isVariable, wn_RX3, by decide +kernel⟩
theorem kX3_isDefinition : gYS yX3_isDefinition cX3_isDefinition 4 (some .boolean) 4 := ⟨wc_yX3_isDefinition, wt_yX3_isDefinition, wn_RX3, by decide +kernel⟩
theorem kX3_isOperand : gYS yX3_isOperand cX3_isOperand 1 (some .boolean) 1 := ⟨wc_yX3_isOperand, wt_yX3_isOperand, wn_RX3, by decide +kernel⟩
theorem kX3_isVariableOperand : gYS yX3_isVariableOperand cX3_isVariableOperand 1 (some .boolean) 1 := ⟨wc_yX3_isVariableOperand, wt_yX3_isVariableOperand, wn_RX3, by decide +kernel⟩
theorem kX3_contains : gYS yX3_contains cX3_contains 2 (some .boolean) 2 := ⟨wc_yX3_contains, wt_yX3_contains, wn_RX3, by decide +kernel⟩
theorem kX3_fail : gYV yX3_fail cX3_fail 3 (some .int) 1 := ⟨wc_yX3_fail, wi_yX3_fail, wse_yX3_fail, wn_RX3, by decide +kernel⟩
theorem kX3_save : gYV yX3_save cX3_save 1 none 0 := ⟨wc_yX3_save, wi_yX3_save, wse_yX3_save, wn_RX3, by decide +kernel⟩
theorem kX3_dropOldest : gYV yX3_dropOldest cX3_dropOldest 3 none 0 := ⟨wc_yX3_dropOldest, wi_yX3_dropOldest, wse_yX3_dropOldest, wn_RX3, by decide +kernel⟩
theorem kX3_finishEditing : gYV yX3_finishEditing cX3_finishEditing 1 none 0 := ⟨wc_yX3_finishEditing, wi_yX3_finishEditing, wse_yX3_finishEditing, wn_RX3, by decide +kernel⟩
theorem kX3_startLastRun : gYV yX3_startLastRun cX3_startLastRun 1 none 0 := ⟨wc_yX3_startLastRun, wi_yX3_startLastRun, wse_yX3_startLastRun, wn_RX3, by decide +kernel⟩
theorem kX3_walkRunOrder : gYV yX3_walkRunOrder cX3_walkRunOrder 5 none 1 := ⟨wc_yX3_walkRunOrder, wi_yX3_walkRunOrder, wse_yX3_walkRunOrder, wn_RX3, by decide +kernel⟩
theorem kX3_isUpToDate : gYV yX3_isUpToDate cX3_isUpToDate 3 (some .boolean) 1 := ⟨wc_yX3_isUpToDate, wi_yX3_isUpToDate, wse_yX3_isUpToDate, wn_RX3, by decide +kernel⟩
theorem kX3_run : gYV yX3_run cX3_run 4 none 1 := ⟨wc_yX3_run, wi_yX3_run, wse_yX3_run, wn_RX3, by decide +kernel⟩
theorem kX3_inputVersion : gYV yX3_inputVersion cX3_inputVersion 3 (some .int) 1 := ⟨wc_yX3_inputVersion, wi_yX3_inputVersion, wse_yX3_inputVersion, wn_RX3, by decide +kernel⟩
theorem kX3_inputResult : gYV yX3_inputResult cX3_inputResult 3 (some .int) 1 := ⟨wc_yX3_inputResult, wi_yX3_inputResult, wse_yX3_inputResult, wn_RX3, by decide +kernel⟩
theorem kX3_combine : gYS yX3_combine cX3_combine 3 (some .int) 3 := ⟨wc_yX3_combine, wt_yX3_combine, wn_RX3, by decide +kernel⟩
theorem kX3_limit : gYS yX3_limit cX3_limit 1 (some .int) 1 := ⟨wc_yX3_limit, wt_yX3_limit, wn_RX3, by decide +kernel⟩
theorem kX3_isErrorResult : gYS yX3_isErrorResult cX3_isErrorResult 1 (some .boolean) 1 := ⟨wc_yX3_isErrorResult, wt_yX3_isErrorResult, wn_RX3, by decide +kernel⟩
theorem kX3_statusOf : gYV yX3_statusOf cX3_statusOf 3 (some .int) 1 := ⟨wc_yX3_statusOf, wi_yX3_statusOf, wse_yX3_statusOf, wn_RX3, by decide +kernel⟩
theorem kX3_freshValueOf : gYV yX3_freshValueOf cX3_freshValueOf 2 (some .int) 1 := ⟨wc_yX3_freshValueOf, wi_yX3_freshValueOf, wse_yX3_freshValueOf, wn_RX3, by decide +kernel⟩
theorem kX3_dependentsOf : gYV yX3_dependentsOf cX3_dependentsOf 4 (some .int) 1 := ⟨wc_yX3_dependentsOf, wi_yX3_dependentsOf, wse_yX3_dependentsOf, wn_RX3, by decide +kernel⟩
theorem kX4_in : gYS yX4_in cX4_in 3 (some .boolean) 3 := ⟨wc_yX4_in, wt_yX4_in, wn_RX4, by decide +kernel⟩
theorem kX4_error : gYV yX4_error cX4_error 2 (some .int) 1 := ⟨wc_yX4_error, wi_yX4_error, wse_yX4_error, wn_RX4, by decide +kernel⟩
theorem kX4_at : gYS yX4_at cX4_at 2 (some .int) 2 := ⟨wc_yX4_at, wt_yX4_at, wn_RX4, by decide +kernel⟩
theorem kX4_get : gYV yX4_get cX4_get 3 (some .int) 2 := ⟨wc_yX4_get, wi_yX4_get, wse_yX4_get, wn_RX4, by decide +kernel⟩
theorem kX4_isCell : gYV yX4_isCell cX4_isCell 2 (some .boolean) 1 := ⟨wc_yX4_isCell, wi_yX4_isCell, wse_yX4_isCell, wn_RX4, by decide +kernel⟩
theorem kX4_save : gYV yX4_save cX4_save 2 none 0 := ⟨wc_yX4_save, wi_yX4_save, wse_yX4_save, wn_RX4, by decide +kernel⟩
theorem kX4_definersOf : gYV yX4_definersOf cX4_definersOf 4 (some .int) 1 := ⟨wc_yX4_definersOf, wi_yX4_definersOf, wse_yX4_definersOf, wn_RX4, by decide +kernel⟩
theorem kX4_only : gYS yX4_only cX4_only 2 (some .int) 1 := ⟨wc_yX4_only, wt_yX4_only, wn_RX4, by decide +kernel⟩
theorem kX4_source : gYV yX4_source cX4_source 2 (some .int) 1 := ⟨wc_yX4_source, wi_yX4_source, wse_yX4_source, wn_RX4, by decide +kernel⟩
theorem kX4_isUndefined : gYV yX4_isUndefined cX4_isUndefined 2 (some .boolean) 1 := ⟨wc_yX4_isUndefined, wi_yX4_isUndefined, wse_yX4_isUndefined, wn_RX4, by decide +kernel⟩
theorem kX4_isBad : gYV yX4_isBad cX4_isBad 4 (some .boolean) 1 := ⟨wc_yX4_isBad, wi_yX4_isBad, wse_yX4_isBad, wn_RX4, by decide +kernel⟩
theorem kX4_deriveDependencies : gYV yX4_deriveDependencies cX4_deriveDependencies 4 none 0 := ⟨wc_yX4_deriveDependencies, wi_yX4_deriveDependencies, wse_yX4_deriveDependencies, wn_RX4, by decide +kernel⟩
theorem kX4_deriveErrors : gYV yX4_deriveErrors cX4_deriveErrors 4 none 0 := ⟨wc_yX4_deriveErrors, wi_yX4_deriveErrors, wse_yX4_deriveErrors, wn_RX4, by decide +kernel⟩
theorem kX4_deriveOrder : gYV yX4_deriveOrder cX4_deriveOrder 4 none 0 := ⟨wc_yX4_deriveOrder, wi_yX4_deriveOrder, wse_yX4_deriveOrder, wn_RX4, by decide +kernel⟩
theorem kX4_isKnown : gYV yX4_isKnown cX4_isKnown 4 (some .boolean) 2 := ⟨wc_yX4_isKnown, wi_yX4_isKnown, wse_yX4_isKnown, wn_RX4, by decide +kernel⟩
theorem kX4_isFreshNow : gYV yX4_isFreshNow cX4_isFreshNow 2 (some .boolean) 1 := ⟨wc_yX4_isFreshNow, wi_yX4_isFreshNow, wse_yX4_isFreshNow, wn_RX4, by decide +kernel⟩
theorem kX4_derive : gYV yX4_derive cX4_derive 2 none 0 := ⟨wc_yX4_derive, wi_yX4_derive, wse_yX4_derive, wn_RX4, by decide +kernel⟩
theorem kX4_operandValue : gYV yX4_operandValue cX4_operandValue 3 (some .int) 1 := ⟨wc_yX4_operandValue, wi_yX4_operandValue, wse_yX4_operandValue, wn_RX4, by decide +kernel⟩
theorem kX4_exact : gYV yX4_exact cX4_exact 4 (some .int) 3 := ⟨wc_yX4_exact, wi_yX4_exact, wse_yX4_exact, wn_RX4, by decide +kernel⟩
theorem kX4_compute : gYV yX4_compute cX4_compute 6 (some .int) 1 := ⟨wc_yX4_compute, wi_yX4_compute, wse_yX4_compute, wn_RX4, by decide +kernel⟩
theorem kX4_versionOf : gYV yX4_versionOf cX4_versionOf 2 (some .int) 1 := ⟨wc_yX4_versionOf, wi_yX4_versionOf, wse_yX4_versionOf, wn_RX4, by decide +kernel⟩
theorem kX4_runOne : gYV yX4_runOne cX4_runOne 3 none 1 := ⟨wc_yX4_runOne, wi_yX4_runOne, wse_yX4_runOne, wn_RX4, by decide +kernel⟩
theorem kX4_runThrough : gYV yX4_runThrough cX4_runThrough 4 none 1 := ⟨wc_yX4_runThrough, wi_yX4_runThrough, wse_yX4_runThrough, wn_RX4, by decide +kernel⟩
theorem kX4_runIfEager : gYV yX4_runIfEager cX4_runIfEager 1 none 0 := ⟨wc_yX4_runIfEager, wi_yX4_runIfEager, wse_yX4_runIfEager, wn_RX4, by decide +kernel⟩
theorem kX4_runStale : gYV yX4_runStale cX4_runStale 1 (some .int) 0 := ⟨wc_yX4_runStale, wi_yX4_runStale, wse_yX4_runStale, wn_RX4, by decide +kernel⟩
theorem kX4_runCell : gYV yX4_runCell cX4_runCell 2 (some .int) 1 := ⟨wc_yX4_runCell, wi_yX4_runCell, wse_yX4_runCell, wn_RX4, by decide +kernel⟩
theorem kX4_lastRunCount : gYV yX4_lastRunCount cX4_lastRunCount 1 (some .int) 0 := ⟨wc_yX4_lastRunCount, wi_yX4_lastRunCount, wse_yX4_lastRunCount, wn_RX4, by decide +kernel⟩
theorem kX4_lastRun : gYV yX4_lastRun cX4_lastRun 2 (some .int) 1 := ⟨wc_yX4_lastRun, wi_yX4_lastRun, wse_yX4_lastRun, wn_RX4, by decide +kernel⟩
theorem kX4_isDefinition : gYS yX4_isDefinition cX4_isDefinition 4 (some .boolean) 4 := ⟨wc_yX4_isDefinition, wt_yX4_isDefinition, wn_RX4, by decide +kernel⟩
theorem kX4_define : gYV yX4_define cX4_define 6 none 5 := ⟨wc_yX4_define, wi_yX4_define, wse_yX4_define, wn_RX4, by decide +kernel⟩
theorem kX4_addCell : gYV yX4_addCell cX4_addCell 6 (some .int) 4 := ⟨wc_yX4_addCell, wi_yX4_addCell, wse_yX4_addCell, wn_RX4, by decide +kernel⟩
theorem kX4_editCell : gYV yX4_editCell cX4_editCell 7 (some .int) 5 := ⟨wc_yX4_editCell, wi_yX4_editCell, wse_yX4_editCell, wn_RX4, by decide +kernel⟩
theorem kX4_copyCell : gYV yX4_copyCell cX4_copyCell 4 none 2 := ⟨wc_yX4_copyCell, wi_yX4_copyCell, wse_yX4_copyCell, wn_RX4, by decide +kernel⟩
theorem kX4_deleteCell : gYV yX4_deleteCell cX4_deleteCell 3 (some .int) 1 := ⟨wc_yX4_deleteCell, wi_yX4_deleteCell, wse_yX4_deleteCell, wn_RX4, by decide +kernel⟩
theorem kX4_moveCell : gYV yX4_moveCell cX4_moveCell 6 (some .int) 2 := ⟨wc_yX4_moveCell, wi_yX4_moveCell, wse_yX4_moveCell, wn_RX4, by decide +kernel⟩
theorem kX4_setEager : gYV yX4_setEager cX4_setEager 3 (some .int) 1 := ⟨wc_yX4_setEager, wi_yX4_setEager, wse_yX4_setEager, wn_RX4, by decide +kernel⟩
theorem kX4_cellCount : gYV yX4_cellCount cX4_cellCount 1 (some .int) 0 := ⟨wc_yX4_cellCount, wi_yX4_cellCount, wse_yX4_cellCount, wn_RX4, by decide +kernel⟩
theorem kX4_ofCell : gYV yX4_ofCell cX4_ofCell 3 (some .int) 2 := ⟨wc_yX4_ofCell, wi_yX4_ofCell, wse_yX4_ofCell, wn_RX4, by decide +kernel⟩
theorem kX4_variable : gYV yX4_variable cX4_variable 2 (some .int) 1 := ⟨wc_yX4_variable, wi_yX4_variable, wse_yX4_variable, wn_RX4, by decide +kernel⟩
theorem kX4_statusOf : gYV yX4_statusOf cX4_statusOf 2 (some .int) 1 := ⟨wc_yX4_statusOf, wi_yX4_statusOf, wse_yX4_statusOf, wn_RX4, by decide +kernel⟩
theorem kX4_status : gYV yX4_status cX4_status 2 (some .int) 1 := ⟨wc_yX4_status, wi_yX4_status, wse_yX4_status, wn_RX4, by decide +kernel⟩
theorem kX4_valueAt : gYV yX4_valueAt cX4_valueAt 2 (some .int) 1 := ⟨wc_yX4_valueAt, wi_yX4_valueAt, wse_yX4_valueAt, wn_RX4, by decide +kernel⟩
theorem kX4_value : gYV yX4_value cX4_value 2 (some .int) 1 := ⟨wc_yX4_value, wi_yX4_value, wse_yX4_value, wn_RX4, by decide +kernel⟩
theorem kX4_valueOf : gYV yX4_valueOf cX4_valueOf 3 (some .int) 1 := ⟨wc_yX4_valueOf, wi_yX4_valueOf, wse_yX4_valueOf, wn_RX4, by decide +kernel⟩
theorem kX4_version : gYV yX4_version cX4_version 2 (some .int) 1 := ⟨wc_yX4_version, wi_yX4_version, wse_yX4_version, wn_RX4, by decide +kernel⟩
theorem kX4_runs : gYV yX4_runs cX4_runs 2 (some .int) 1 := ⟨wc_yX4_runs, wi_yX4_runs, wse_yX4_runs, wn_RX4, by decide +kernel⟩
theorem kX4_totalRuns : gYV yX4_totalRuns cX4_totalRuns 1 (some .int) 0 := ⟨wc_yX4_totalRuns, wi_yX4_totalRuns, wse_yX4_totalRuns, wn_RX4, by decide +kernel⟩
theorem kX4_dependencies : gYV yX4_dependencies cX4_dependencies 2 (some .int) 1 := ⟨wc_yX4_dependencies, wi_yX4_dependencies, wse_yX4_dependencies, wn_RX4, by decide +kernel⟩
theorem kX4_dependentsOf : gYV yX4_dependentsOf cX4_dependentsOf 4 (some .int) 1 := ⟨wc_yX4_dependentsOf, wi_yX4_dependentsOf, wse_yX4_dependentsOf, wn_RX4, by decide +kernel⟩
theorem kX4_dependents : gYV yX4_dependents cX4_dependents 2 (some .int) 1 := ⟨wc_yX4_dependents, wi_yX4_dependents, wse_yX4_dependents, wn_RX4, by decide +kernel⟩
theorem kX4_definers : gYV yX4_definers cX4_definers 2 (some .int) 1 := ⟨wc_yX4_definers, wi_yX4_definers, wse_yX4_definers, wn_RX4, by decide +kernel⟩
theorem kX4_runnableCount : gYV yX4_runnableCount cX4_runnableCount 1 (some .int) 0 := ⟨wc_yX4_runnableCount, wi_yX4_runnableCount, wse_yX4_runnableCount, wn_RX4, by decide +kernel⟩
theorem kX4_runOrder : gYV yX4_runOrder cX4_runOrder 2 (some .int) 1 := ⟨wc_yX4_runOrder, wi_yX4_runOrder, wse_yX4_runOrder, wn_RX4, by decide +kernel⟩
theorem kX4_staleCount : gYV yX4_staleCount cX4_staleCount 3 (some .int) 0 := ⟨wc_yX4_staleCount, wi_yX4_staleCount, wse_yX4_staleCount, wn_RX4, by decide +kernel⟩
theorem kX4_undo : gYV yX4_undo cX4_undo 2 (some .int) 0 := ⟨wc_yX4_undo, wi_yX4_undo, wse_yX4_undo, wn_RX4, by decide +kernel⟩
theorem kX4_errorCount : gYV yX4_errorCount cX4_errorCount 2 (some .int) 1 := ⟨wc_yX4_errorCount, wi_yX4_errorCount, wse_yX4_errorCount, wn_RX4, by decide +kernel⟩
theorem kX4_mix : gYV yX4_mix cX4_mix 3 none 1 := ⟨wc_yX4_mix, wi_yX4_mix, wse_yX4_mix, wn_RX4, by decide +kernel⟩
theorem kX4_mixCell : gYV yX4_mixCell cX4_mixCell 3 none 1 := ⟨wc_yX4_mixCell, wi_yX4_mixCell, wse_yX4_mixCell, wn_RX4, by decide +kernel⟩
theorem kX4_digest : gYV yX4_digest cX4_digest 2 (some .long) 0 := ⟨wc_yX4_digest, wi_yX4_digest, wse_yX4_digest, wn_RX4, by decide +kernel⟩
theorem kJ6_bitCount_0f7a4 : gYS yJ6_bitCount_0f7a4 cJ6_bitCount_0f7a4 1 (some .int) 1 := ⟨wc_yJ6_bitCount_0f7a4, wt_yJ6_bitCount_0f7a4, wn_RJ6, by decide +kernel⟩
end
section
/-! ===== what both sides mean: functions of a row of numbers (count, eager, versions, total, last, list, cells of ten) ===== -/
def qb (c : Nat) : Int32 := (1 : Int32) <<< (nI c &&& 31)
/-- the bit c of a set of cells -/
def qt (x : Int32) (c : Nat) : Bool := decide ((x >>> (nI c &&& 31)) &&& 1 = 1)
/-- the first k below n with p k; n if there is none -/
def qfst (p : Nat → Bool) : Nat → Nat
  | 0 => 0
  | n + 1 => if qfst p n < n then qfst p n else if p n then n else n + 1
def qex (p : Nat → Bool) (n : Nat) : Prop := ∃ d, d < n ∧ p d = true
/-- f 0, f 1 .. f (k - 1), one behind the other -/
def qit {α : Type} (f : Nat → α → α) : Nat → α → α
  | 0, a => a
  | k + 1, a => f k (qit f k a)
/-- the cells that define variable x, among the first c -/
def qdfn (V : Nat → Int32) (x : Int32) : Nat → Int32
  | 0 => 0
  | c + 1 => qdfn V x c ||| (if V c = x then qb c else 0)
/-- the only cell of a set; 12 if it isn't one -/
def qonl (s : Int32) : Nat := qfst (fun c => decide (s = qb c)) 12
/-- variables, left and right operands, how many -/
abbrev qG : Type := (Nat → Int32) × (Nat → Int32) × (Nat → Int32) × Nat
def qV (g : qG) : Nat → Int32 := g.1
def qL (g : qG) : Nat → Int32 := g.2.1
def qR (g : qG) : Nat → Int32 := g.2.2.1
def qn (g : qG) : Nat := g.2.2.2
def qdf (g : qG) (x : Int32) : Int32 := qdfn (qV g) x (qn g)
def qsrc (g : qG) (x : Int32) : Nat := if x < 100 then 12 else qonl (qdf g (x - 100))
def qdo (g : qG) (x : Int32) : Int32 := if qsrc g x = 12 then 0 else qb (qsrc g x)
def qdir (g : qG) (c : Nat) : Int32 := qdo g (qL g c) ||| qdo g (qR g c)
def qwar (g : qG) : Nat → Nat → Nat → Bool
  | 0, c, d => qt (qdir g c) d
  | k + 1, c, d => qwar g k c d || (qwar g k c k && qwar g k k d)
def qall (g : qG) (c d : Nat) : Bool := qwar g (qn g) c d
def qundB (g : qG) (x : Int32) : Bool := decide (¬ x < 100) && decide (qdf g (x - 100) = 0)
def qown (g : qG) (c : Nat) : Int32 := if qdf g (qV g c) = qb c then (if qall g c c = true then 3 else if qundB g (qL g c) = true ∨ qundB g (qR g c) = true then 4 else 0) else 2
def qused (g : qG) (x : Int32) : Int32 := if x < 100 then 0 else qdf g (x - 100)
/-- a used variable has a definer with an error -/
def qbad (g : qG) (w : Nat → Int32) (x : Int32) : Bool := decide (qfst (fun d => qt (qused g x) d && decide (w d ≠ 0)) (qn g) < qn g)
def qup (f : Nat → Int32) (k : Nat) (v : Int32) : Nat → Int32 := fun j => if j = k then v else f j
def qst (g : qG) (c : Nat) (w : Nat → Int32) : Nat → Int32 := if w c = 0 ∧ (qbad g w (qL g c) = true ∨ qbad g w (qR g c) = true) then qup w c 5 else w
def qw (g : qG) : Nat → Int32 := qit (fun _ w => qit (qst g) (qn g) w) (qn g) (fun c => if c < qn g then qown g c else 0)
def qrdy (g : qG) (P : Int32) (c : Nat) : Bool := decide (qw g c = 0) && (!(qt P c) && decide (qdir g c &&& (P ^^^ (-1)) = 0))
def qnx (g : qG) (P : Int32) : Nat := qfst (qrdy g P) (qn g)
/-- the cells of the run order's first k places -/
def qpl (g : qG) : Nat → Int32
  | 0 => 0
  | k + 1 => qpl g k ||| qb (qnx g (qpl g k))
/-- the run order -/
def qo (g : qG) (k : Nat) : Nat := qnx g (qpl g k)
/-- how many are runnable -/
def qm (g : qG) : Nat := qfst (fun k => decide (qo g k = qn g)) (qn g)
/-! rows -/
def qg (r : Nat → Int32) (n : Nat) : qG := (fun c => r (17 + 10 * c + 0), fun c => r (17 + 10 * c + 2), fun c => r (17 + 10 * c + 3), n)
def qkn (g : qG) (r : Nat → Int32) (fr : Nat → Bool) (x seen : Int32) : Bool := decide (x < 100) || (fr (qsrc g x) && decide (r (17 + 10 * qsrc g x + 5) = seen))
def qfn (g : qG) (r : Nat → Int32) (fr : Nat → Bool) (c : Nat) : Bool := decide (0 < r (17 + 10 * c + 5)) && (qkn g r fr (r (17 + 10 * c + 2)) (r (17 + 10 * c + 6)) && qkn g r fr (r (17 + 10 * c + 3)) (r (17 + 10 * c + 7)))
def qub (f : Nat → Bool) (k : Nat) (v : Bool) : Nat → Bool := fun j => if j = k then v else f j
/-- which cells are fresh, behind the first k of the run order -/
def qfr (g : qG) (r : Nat → Int32) : Nat → Nat → Bool
  | 0 => fun _ => false
  | k + 1 => qub (qfr g r k) (qo g k) (qfn g r (qfr g r k) (qo g k))
def qF (g : qG) (r : Nat → Int32) : Nat → Bool := qfr g r (qm g)
def qov (g : qG) (r : Nat → Int32) (x : Int32) : Int32 := if x < 100 then x else if 9999 < r (17 + 10 * qsrc g x + 4) then 20000 else r (17 + 10 * qsrc g x + 4)
def qex3 (op a b : Int32) : Int32 := if op = 0 then a + b else if op = 1 then a - b else if op = 2 then a * b else if op = 3 then a / b else if op = 4 then (if b < a then a else b) else (if a < b then a else b)
def qcmp (g : qG) (r : Nat → Int32) (c : Nat) : Int32 :=
  if qov g r (r (17 + 10 * c + 2)) = 20000 ∨ qov g r (r (17 + 10 * c + 3)) = 20000 then 20005
  else if r (17 + 10 * c + 1) = 3 ∧ qov g r (r (17 + 10 * c + 3)) = 0 then 20007
  else if ¬ qex3 (r (17 + 10 * c + 1)) (qov g r (r (17 + 10 * c + 2))) (qov g r (r (17 + 10 * c + 3))) < -9999 ∧ ¬ 9999 < qex3 (r (17 + 10 * c + 1)) (qov g r (r (17 + 10 * c + 2))) (qov g r (r (17 + 10 * c + 3))) then qex3 (r (17 + 10 * c + 1)) (qov g r (r (17 + 10 * c + 2))) (qov g r (r (17 + 10 * c + 3)))
  else 20006
def qvo (g : qG) (r : Nat → Int32) (x : Int32) : Int32 := if x < 100 then 0 else r (17 + 10 * qsrc g x + 5)
/-- the row behind the running of cell c -/
def qr1 (g : qG) (r : Nat → Int32) (c : Nat) : Nat → Int32 := if r (17 + 10 * c + 5) = 0 ∨ r (17 + 10 * c + 4) ≠ qcmp g r c then qup (qup (qup r 2 (r 2 + 1)) (17 + 10 * c + 4) (qcmp g r c)) (17 + 10 * c + 5) (r 2 + 1) else r
def qr2 (g : qG) (r : Nat → Int32) (c : Nat) : Nat → Int32 := qup (qr1 g r c) (17 + 10 * c + 6) (qvo g (qr1 g r c) (r (17 + 10 * c + 2)))
def qr3 (g : qG) (r : Nat → Int32) (c : Nat) : Nat → Int32 := qup (qr2 g r c) (17 + 10 * c + 7) (qvo g (qr2 g r c) (r (17 + 10 * c + 3)))
def qr4 (g : qG) (r : Nat → Int32) (c : Nat) : Nat → Int32 := qup (qup (qr3 g r c) (17 + 10 * c + 8) (r (17 + 10 * c + 8) + 1)) 3 (r 3 + 1)
def qrun (g : qG) (r : Nat → Int32) (c : Nat) : Nat → Int32 := qup (qup (qr4 g r c) (5 + (r 4).toNatClampNeg) (nI c)) 4 (r 4 + 1)
/-- the run order's first k places gone through, a set's stale cells run -/
def qwk (g : qG) (set : Int32) (r0 : Nat → Int32) : Nat → (Nat → Int32) × (Nat → Bool)
  | 0 => (r0, fun _ => false)
  | k + 1 => if qfn g (qwk g set r0 k).1 (qwk g set r0 k).2 (qo g k) = true then ((qwk g set r0 k).1, qub (qwk g set r0 k).2 (qo g k) true)
    else if qt set (qo g k) = true then (qrun g (qwk g set r0 k).1 (qo g k), qub (qwk g set r0 k).2 (qo g k) true)
    else ((qwk g set r0 k).1, qub (qwk g set r0 k).2 (qo g k) false)
def qrt (r : Nat → Int32) (n : Nat) (set : Int32) : Nat → Int32 := (qwk (qg r n) set r (qm (qg r n))).1
/-- status, value, dependents -/
def qsta (g : qG) (r : Nat → Int32) (c : Nat) : Int32 := if qw g c ≠ 0 then qw g c else if qF g r c = true then (if 9999 < r (17 + 10 * c + 4) then r (17 + 10 * c + 4) - 20000 else 0) else 1
def qval (g : qG) (r : Nat → Int32) (c : Nat) : Int32 := if qsta g r c = 0 then r (17 + 10 * c + 4) else -10001
def qdpt (g : qG) (c : Nat) : Nat → Int32
  | 0 => 0
  | k + 1 => qdpt g c k ||| (if qall g k c = true then qb k else 0)
/-- a cell's definition, laid into the row -/
def qdef (r : Nat → Int32) (c : Nat) (v op x y : Int32) : Nat → Int32 := qup (qup (qup (qup (qup (qup (qup (qup r (17 + 10 * c + 0) v) (17 + 10 * c + 1) op) (17 + 10 * c + 2) x) (17 + 10 * c + 3) y) (17 + 10 * c + 4) 0) (17 + 10 * c + 5) 0) (17 + 10 * c + 6) 0) (17 + 10 * c + 7) 0
def qcpy (r : Nat → Int32) (a b : Nat) : Nat → Int32 := fun j => if 17 + 10 * b ≤ j ∧ j < 17 + 10 * b + 10 then r (17 + 10 * a + (j - (17 + 10 * b))) else r j
end
section
-- pasted from kit/laws/BITS.to-paste (the family bt)
def bt (x : Int32) (i : Nat) : Bool := x.toBitVec.getLsbD i
theorem b_ext {x y : Int32} (h : ∀ i, i < 32 → bt x i = bt y i) : x = y := Int32.toBitVec_inj.mp (BitVec.eq_of_getLsbD_eq (fun i hi => h i hi))
theorem b_or (x y : Int32) (i : Nat) : bt (x ||| y) i = (bt x i || bt y i) := by unfold bt; rw [Int32.toBitVec_or, BitVec.getLsbD_or]
theorem b_and (x y : Int32) (i : Nat) : bt (x &&& y) i = (bt x i && bt y i) := by unfold bt; rw [Int32.toBitVec_and, BitVec.getLsbD_and]
theorem b_xor (x y : Int32) (i : Nat) : bt (x ^^^ y) i = (bt x i ^^ bt y i) := by unfold bt; rw [Int32.toBitVec_xor, BitVec.getLsbD_xor]
theorem b_big {x : Int32} {i : Nat} (h : 32 ≤ i) : bt x i = false := BitVec.getLsbD_of_ge _ _ h
theorem b_255 (i : Nat) : bt 255 i = decide (i < 8) := by
  rcases Nat.lt_or_ge i 32 with h | h
  · exact (by decide +kernel : ∀ i, i < 32 → bt 255 i = decide (i < 8)) i h
  · rw [b_big h, decide_eq_false (by omega)]
theorem b_65535 (i : Nat) : bt 65535 i = decide (i < 16) := by
  rcases Nat.lt_or_ge i 32 with h | h
  · exact (by decide +kernel : ∀ i, i < 32 → bt 65535 i = decide (i < 16)) i h
  · rw [b_big h, decide_eq_false (by omega)]
theorem b_m1 : ∀ i, i < 32 → bt (-1) i = true := by decide +kernel
theorem b_0 (i : Nat) : bt 0 i = false := BitVec.getLsbD_zero
theorem s_l : ∀ n, n < 32 → ((nI n &&& 31).toBitVec.smod 32).toNat = n := by decide +kernel
theorem s_u : ∀ n, n < 32 → (((nI n).toUInt32 &&& Int32.toUInt32 31).toBitVec % 32).toNat = n := by decide +kernel
theorem b_shl (n : Nat) (hn : n < 32) (x : Int32) {i : Nat} (hi : i < 32) : bt (x <<< (nI n &&& 31)) i = (decide (n ≤ i) && bt x (i - n)) := by
  unfold bt
  rw [Int32.toBitVec_shiftLeft]
  show (x.toBitVec <<< ((nI n &&& 31).toBitVec.smod 32).toNat).getLsbD i = _
  rw [s_l n hn, BitVec.getLsbD_shiftLeft]
  rcases Nat.lt_or_ge i n with h | h
  · simp [h, Nat.not_le.mpr h]
  · simp [hi, h, Nat.not_lt.mpr h]
theorem b_ushr (n : Nat) (hn : n < 32) (x : Int32) (i : Nat) : bt ((x.toUInt32 >>> ((nI n).toUInt32 &&& Int32.toUInt32 31)).toInt32) i = bt x (n + i) := by
  show (x.toUInt32 >>> ((nI n).toUInt32 &&& Int32.toUInt32 31)).toBitVec.getLsbD i = x.toUInt32.toBitVec.getLsbD (n + i)
  rw [UInt32.toBitVec_shiftRight]
  show (x.toUInt32.toBitVec >>> (((nI n).toUInt32 &&& Int32.toUInt32 31).toBitVec % 32).toNat).getLsbD i = _
  rw [s_u n hn, BitVec.getLsbD_ushiftRight]
theorem b_sshr (n : Nat) (hn : n < 32) (x : Int32) {i : Nat} (hi : i < 32) : bt (x >>> (nI n &&& 31)) i = if n + i < 32 then bt x (n + i) else bt x 31 := by
  unfold bt
  rw [Int32.toBitVec_shiftRight]
  show (x.toBitVec.sshiftRight ((nI n &&& 31).toBitVec.smod 32).toNat).getLsbD i = _
  rw [s_l n hn, BitVec.getLsbD_sshiftRight, BitVec.msb_eq_getLsbD_last]
  simp [hi]
-- end of what is pasted
theorem b_one : ∀ i, i < 32 → bt 1 i = decide (i = 0) := by decide +kernel
theorem qb_bt {c : Nat} (hc : c < 32) {i : Nat} (hi : i < 32) : bt (qb c) i = decide (i = c) := by
  unfold qb
  rw [b_shl c hc 1 hi]
  rcases Nat.lt_or_ge i c with h | h
  · simp [Nat.not_le.mpr h, Nat.ne_of_lt h]
  · rw [b_one (i - c) (by omega)]
    simp only [h, decide_true, Bool.true_and]
    congr 1
    exact propext ⟨fun e => by omega, fun e => by omega⟩
theorem qt_bt {x : Int32} {c : Nat} (hc : c < 32) : qt x c = bt x c := by
  unfold qt
  have h : ((x >>> (nI c &&& 31)) &&& 1 = 1) ↔ bt x c = true := by
    constructor
    · intro h
      have h1 : bt ((x >>> (nI c &&& 31)) &&& 1) 0 = true := by rw [h]; rfl
      rw [b_and, b_sshr c hc x (by omega)] at h1
      simpa [hc, b_one] using h1
    · intro h
      apply b_ext
      intro i hi
      rw [b_and, b_one i hi, b_sshr c hc x hi]
      by_cases h0 : i = 0
      · subst h0
        simp [hc, h]
      · simp [h0]
  rw [← decide_eq_true_iff (p := bt x c = true)] at h
  cases hb : bt x c <;> simp_all
theorem qt_iff {x : Int32} {c : Nat} : (x >>> (nI c &&& 31)) &&& 1 = 1 ↔ qt x c = true := by simp [qt]
theorem qt_01 (x : Int32) : x &&& 1 = 0 ∨ x &&& 1 = 1 := by
  by_cases h : bt x 0 = true
  · right
    apply b_ext
    intro i hi
    rw [b_and, b_one i hi]
    by_cases h0 : i = 0
    · subst h0; simp [h]
    · simp [h0]
  · left
    apply b_ext
    intro i hi
    rw [b_and, b_one i hi, b_0]
    by_cases h0 : i = 0
    · subst h0; simpa using h
    · simp [h0]
theorem qt_iff0 {x : Int32} {c : Nat} : (x >>> (nI c &&& 31)) &&& 1 = 0 ↔ qt x c = false := by
  rcases qt_01 (x >>> (nI c &&& 31)) with h | h <;> simp [qt, h]
theorem qt_or (x y : Int32) {c : Nat} (hc : c < 32) : qt (x ||| y) c = (qt x c || qt y c) := by
  rw [qt_bt hc, qt_bt hc, qt_bt hc, b_or]
theorem qt_and (x y : Int32) {c : Nat} (hc : c < 32) : qt (x &&& y) c = (qt x c && qt y c) := by
  rw [qt_bt hc, qt_bt hc, qt_bt hc, b_and]
theorem qt_qb {d c : Nat} (hd : d < 32) (hc : c < 32) : qt (qb d) c = decide (c = d) := by
  rw [qt_bt hc, qb_bt hd hc]
theorem qt_0 (c : Nat) (hc : c < 32) : qt 0 c = false := by rw [qt_bt hc, b_0]
theorem qt_ext {x y : Int32} (h : ∀ c, c < 32 → qt x c = qt y c) : x = y := b_ext (fun i hi => by rw [← qt_bt hi, ← qt_bt hi]; exact h i hi)
theorem qt_m1 {x : Int32} {c : Nat} (hc : c < 32) : qt (x ^^^ (-1)) c = !(qt x c) := by
  rw [qt_bt hc, qt_bt hc, b_xor, b_m1 c hc]
  simp
theorem qt_diff {x y : Int32} : x &&& (y ^^^ (-1)) = 0 ↔ ∀ c, c < 32 → qt x c = true → qt y c = true := by
  constructor
  · intro h c hc hx
    have h1 : qt (x &&& (y ^^^ (-1))) c = false := by rw [h]; exact qt_0 c hc
    rw [qt_and _ _ hc, qt_m1 hc, hx] at h1
    simpa using h1
  · intro h
    apply qt_ext
    intro c hc
    rw [qt_and _ _ hc, qt_m1 hc, qt_0 c hc]
    cases hx : qt x c
    · rfl
    · rw [h c hc hx]; rfl
theorem qt_con {x : Int32} {c : Nat} (hc : c < 32) : x &&& qb c = 0 ↔ qt x c = false := by
  constructor
  · intro h
    have h1 : qt (x &&& qb c) c = false := by rw [h]; exact qt_0 c hc
    rw [qt_and _ _ hc, qt_qb hc hc] at h1
    simpa using h1
  · intro h
    apply qt_ext
    intro d hd
    rw [qt_and _ _ hd, qt_qb hc hd, qt_0 d hd]
    by_cases e : d = c
    · subst e; simp [h]
    · simp [e]
theorem qb_inj {c d : Nat} (hc : c < 32) (hd : d < 32) (h : qb c = qb d) : c = d := by
  have h1 : qt (qb c) d = qt (qb d) d := by rw [h]
  rw [qt_qb hc hd, qt_qb hd hd] at h1
  simp at h1
  exact h1.symm
theorem qb_ne0 {c : Nat} (hc : c < 32) : qb c ≠ 0 := by
  intro h
  have h1 : qt (qb c) c = false := by rw [h]; exact qt_0 c hc
  rw [qt_qb hc hc] at h1
  simp at h1
theorem qt_neg1 {c : Nat} (hc : c < 32) : qt (-1) c = true := by rw [qt_bt hc, b_m1 c hc]
/-! the first of some -/
theorem qfst_le (p : Nat → Bool) : ∀ n, qfst p n ≤ n
  | 0 => Nat.le_refl 0
  | n + 1 => by
    have ih := qfst_le p n
    unfold qfst
    split
    · omega
    · split <;> omega
theorem qfst_no (p : Nat → Bool) : ∀ n k, k < qfst p n → p k = false
  | 0, k, h => absurd h (Nat.not_lt_zero k)
  | n + 1, k, h => by
    have ih := qfst_no p n
    have hl := qfst_le p n
    unfold qfst at h
    split at h
    · exact ih k h
    · split at h
      · exact ih k (by omega)
      · rcases Nat.lt_or_ge k n with q | q
        · exact ih k (by omega)
        · have : k = n := by omega
          subst this
          simpa using ‹¬ p k = true›
theorem qfst_yes (p : Nat → Bool) : ∀ n, qfst p n < n → p (qfst p n) = true
  | 0, h => absurd h (Nat.not_lt_zero _)
  | n + 1, h => by
    have ih := qfst_yes p n
    unfold qfst at h ⊢
    split
    · exact ih (by assumption)
    · split
      · assumption
      · rename_i h1 h2
        rw [if_neg h1, if_neg h2] at h
        omega
theorem qfst_at {p : Nat → Bool} {n k : Nat} (hk : k < n) (hno : ∀ j, j < k → p j = false) (hy : p k = true) : qfst p n = k := by
  have h1 := qfst_le p n
  rcases Nat.lt_trichotomy (qfst p n) k with h | h | h
  · have h2 := qfst_yes p n (by omega)
    rw [hno _ h] at h2
    cases h2
  · exact h
  · have h2 := qfst_no p n k h
    rw [hy] at h2
    cases h2
theorem qfst_none {p : Nat → Bool} {n : Nat} (hno : ∀ j, j < n → p j = false) : qfst p n = n := by
  have h1 := qfst_le p n
  rcases Nat.lt_or_ge (qfst p n) n with h | h
  · have h2 := qfst_yes p n h
    rw [hno _ h] at h2
    cases h2
  · omega
theorem qfst_lt {p : Nat → Bool} {n : Nat} : qfst p n < n ↔ ∃ d, d < n ∧ p d = true := by
  constructor
  · intro h
    exact ⟨_, h, qfst_yes p n h⟩
  · rintro ⟨d, hd, hp⟩
    rcases Nat.lt_or_ge (qfst p n) n with h | h
    · exact h
    · have h2 := qfst_no p n d (by omega)
      rw [hp] at h2
      cases h2
theorem qfst_congr {p q : Nat → Bool} {n : Nat} (h : ∀ k, k < n → p k = q k) : qfst p n = qfst q n := by
  have h1 := qfst_le q n
  rcases Nat.lt_or_ge (qfst q n) n with g | g
  · exact qfst_at g (fun j hj => by rw [h j (by omega)]; exact qfst_no q n j hj) (by rw [h _ g]; exact qfst_yes q n g)
  · rw [qfst_none (p := p) (fun j hj => by rw [h j hj]; exact qfst_no q n j (by omega))]
    omega
theorem qonl_le (s : Int32) : qonl s ≤ 12 := qfst_le _ 12
theorem qonl_at {s : Int32} {c : Nat} (hc : c < 12) (h : s = qb c) : qonl s = c := qfst_at hc (fun j hj => by
  simp only [decide_eq_false_iff_not]
  intro e
  have := qb_inj (by omega) (by omega) (h.symm.trans e)
  omega) (by simpa using h)
theorem qonl_yes {s : Int32} (h : qonl s < 12) : s = qb (qonl s) := by
  unfold qonl at h ⊢
  have h1 := qfst_yes (fun c => decide (s = qb c)) 12 h
  exact of_decide_eq_true h1
theorem qonl_no {s : Int32} (h : qonl s = 12) {c : Nat} (hc : c < 12) : s ≠ qb c := by
  have := qfst_no (fun c => decide (s = qb c)) 12 c (by show c < qonl s; omega)
  simpa using this
theorem qsrc_le (g : qG) (x : Int32) : qsrc g x ≤ 12 := by
  unfold qsrc
  split
  · omega
  · exact qonl_le _
/-! numbers -/
theorem qicell {n : Nat} (h : n ≤ 12) {x : Int32} : (¬ x < 0 ∧ ¬ nI n - 1 < x) ↔ ∃ j, j < n ∧ x = nI j := by
  constructor
  · rintro ⟨h1, h2⟩
    obtain ⟨j, hj, rfl⟩ := nI_of h1
    refine ⟨j, ?_, rfl⟩
    rw [Int32.lt_iff_toInt_lt, nI_toInt hj] at h2
    rcases Nat.eq_zero_or_pos n with h0 | h0
    · subst h0
      exfalso
      apply h2
      have : (nI 0 - 1).toInt = -1 := by decide
      omega
    · have e : nI n - 1 = nI (n - 1) := pk_sub (b := 1) h0
      rw [e, nI_toInt (by omega)] at h2
      omega
  · rintro ⟨j, hj, rfl⟩
    refine ⟨nI_pos (by omega), ?_⟩
    have e : nI n - 1 = nI (n - 1) := pk_sub (b := 1) (by omega)
    rw [e, Int32.lt_iff_toInt_lt, nI_toInt (by omega), nI_toInt (by omega)]
    omega
theorem qle99 {x : Int32} : x ≤ 99 ↔ x < 100 := by
  rw [Int32.le_iff_toInt_le, Int32.lt_iff_toInt_lt]
  have h1 : (99 : Int32).toInt = 99 := by decide
  have h2 : (100 : Int32).toInt = 100 := by decide
  omega
theorem qge100 {x : Int32} : 100 ≤ x ↔ ¬ x < 100 := by
  rw [Int32.le_iff_toInt_le, Int32.lt_iff_toInt_lt]
  omega
theorem nI_neg {k : Nat} (h : k < 2 ^ 31) {z : Int32} (hz : z < 0) : ¬ nI k = z := by
  intro e
  rw [← e] at hz
  exact nI_pos h hz
theorem nI_bmod {k : Nat} (hk : k < 2 ^ 31) : nI k = 0 ↔ k = 0 := by
  rw [← nI_0, nI_eq hk (by omega)]
/-! the frame of a store: what lies at cells of other roles is as before -/
def gEq (Y : gL) (rs : List Nat) (σ τ : gS) : Prop := τ.2 = σ.2 ∧ ∀ a, gK Y a ∉ rs → τ.1 a = σ.1 a
theorem gEq.rf {Y : gL} {rs : List Nat} {σ : gS} : gEq Y rs σ σ := ⟨rfl, fun _ _ => rfl⟩
theorem gEq.tr {Y : gL} {rs : List Nat} {σ τ υ : gS} (h1 : gEq Y rs σ τ) (h2 : gEq Y rs τ υ) : gEq Y rs σ υ := ⟨h2.1.trans h1.1, fun a ha => (h2.2 a ha).trans (h1.2 a ha)⟩
theorem gEq.mono {Y : gL} {rs rs' : List Nat} {σ τ : gS} (h : gEq Y rs σ τ) (hs : ∀ k ∈ rs, k ∈ rs') : gEq Y rs' σ τ := ⟨h.1, fun a ha => h.2 a (fun q => ha (hs _ q))⟩
theorem gEq.put {Y : gL} {rs : List Nat} {σ τ : gS} (h : gEq Y rs σ τ) {a k : Nat} {v : Int32} {i : Nat} (hi : gK Y a = i) (ha : i ∈ rs) : gEq Y rs σ (uI τ a k v) := ⟨h.1, fun b hb => by
  rw [uI_ne (fun e => hb (by rw [e, hi]; exact ha))]
  exact h.2 b hb⟩
theorem gEq.at {Y : gL} {rs : List Nat} {σ τ : gS} (h : gEq Y rs σ τ) {a i : Nat} (hi : gK Y a = i) (ha : i ∉ rs) : τ.1 a = σ.1 a := h.2 a (by rw [hi]; exact ha)
theorem gK_ne {Y : gL} {a b i j : Nat} (ha : gK Y a = i) (hb : gK Y b = j) (h : i ≠ j) : a ≠ b := fun e => h (by rw [← ha, ← hb, e])
/-! the layout of the model's cells -/
def gLM (Y : gL) (mo : Nat) : Prop := gK Y mo = 15 ∧ gK Y (gF Y mo 0) = 16 ∧ gK Y (gF Y mo 1) = 17 ∧ gK Y (gF Y mo 3) = 18 ∧ gK Y (gF Y mo 4) = 19 ∧ gK Y (gF Y mo 5) = 20 ∧ gK Y (gF Y mo 6) = 21 ∧ gK Y (gF Y mo 7) = 22 ∧ gK Y (gF Y mo 9) = 23 ∧ gK Y (gF Y mo 10) = 24
theorem gM0 {Y : gL} {mo : Nat} (h : gLM Y mo) : gK Y mo = 15 := h.1
theorem gM1 {Y : gL} {mo : Nat} (h : gLM Y mo) : gK Y (gF Y mo 0) = 16 := h.2.1
theorem gM2 {Y : gL} {mo : Nat} (h : gLM Y mo) : gK Y (gF Y mo 1) = 17 := h.2.2.1
theorem gM3 {Y : gL} {mo : Nat} (h : gLM Y mo) : gK Y (gF Y mo 3) = 18 := h.2.2.2.1
theorem gM4 {Y : gL} {mo : Nat} (h : gLM Y mo) : gK Y (gF Y mo 4) = 19 := h.2.2.2.2.1
theorem gM5 {Y : gL} {mo : Nat} (h : gLM Y mo) : gK Y (gF Y mo 5) = 20 := h.2.2.2.2.2.1
theorem gM6 {Y : gL} {mo : Nat} (h : gLM Y mo) : gK Y (gF Y mo 6) = 21 := h.2.2.2.2.2.2.1
theorem gM7 {Y : gL} {mo : Nat} (h : gLM Y mo) : gK Y (gF Y mo 7) = 22 := h.2.2.2.2.2.2.2.1
theorem gM9 {Y : gL} {mo : Nat} (h : gLM Y mo) : gK Y (gF Y mo 9) = 23 := h.2.2.2.2.2.2.2.2.1
theorem gM10 {Y : gL} {mo : Nat} (h : gLM Y mo) : gK Y (gF Y mo 10) = 24 := h.2.2.2.2.2.2.2.2.2
/-- the model's row is r, of n cells -/
def gRow (Y : gL) (mo : Nat) (σ : gS) (r : Nat → Int32) (n : Nat) : Prop := σ.1 (gF Y mo 0) = r ∧ r 0 = nI n ∧ n ≤ 12
end
section
/-! ===== definers, sources, dependencies ===== -/
theorem qdfn_bit (V : Nat → Int32) (x : Int32) {d : Nat} (hd : d < 32) : ∀ c, c ≤ 32 → (qt (qdfn V x c) d = true ↔ d < c ∧ V d = x)
  | 0, _ => by simp [qdfn, qt_0 d hd]
  | c + 1, hc => by
    have ih := qdfn_bit V x hd c (by omega)
    rw [qdfn, qt_or _ _ hd, Bool.or_eq_true, ih]
    by_cases h : V c = x
    · rw [if_pos h, qt_qb (by omega) hd]
      simp only [decide_eq_true_eq]
      constructor
      · rintro (⟨h1, h2⟩ | rfl)
        · exact ⟨by omega, h2⟩
        · exact ⟨by omega, h⟩
      · rintro ⟨h1, h2⟩
        by_cases e : d = c
        · exact Or.inr e
        · exact Or.inl ⟨by omega, h2⟩
    · rw [if_neg h, qt_0 d hd]
      constructor
      · rintro (⟨h1, h2⟩ | q)
        · exact ⟨by omega, h2⟩
        · cases q
      · rintro ⟨h1, h2⟩
        by_cases e : d = c
        · subst e; exact absurd h2 h
        · exact Or.inl ⟨by omega, h2⟩
theorem qdf_bit {g : qG} (hn : qn g ≤ 12) (x : Int32) {d : Nat} (hd : d < 32) : qt (qdf g x) d = true ↔ d < qn g ∧ qV g d = x := qdfn_bit _ _ hd _ (by omega)
theorem qsrc_lt {g : qG} (hn : qn g ≤ 12) {x : Int32} (h : qsrc g x < 12) : qsrc g x < qn g := by
  unfold qsrc at h ⊢
  split at h
  · omega
  · rename_i h1
    rw [if_neg h1]
    have h2 := qonl_yes h
    have h3 : qt (qb (qonl (qdf g (x - 100)))) (qonl (qdf g (x - 100))) = true := by
      rw [qt_qb (by omega) (by omega)]
      simp
    rw [← h2] at h3
    exact ((qdf_bit hn _ (by omega)).mp h3).1
theorem qdo_bit (g : qG) (x : Int32) {d : Nat} (hd : d < 12) : qt (qdo g x) d = true ↔ qsrc g x = d := by
  unfold qdo
  have h1 := qsrc_le g x
  split
  · rename_i h
    rw [qt_0 d (by omega)]
    constructor
    · intro q; cases q
    · intro q; omega
  · rename_i h
    rw [qt_qb (by omega) (by omega)]
    simp only [decide_eq_true_eq]
    exact ⟨Eq.symm, Eq.symm⟩
theorem qdo_big (g : qG) (x : Int32) {d : Nat} (h12 : 12 ≤ d) (hd : d < 32) : qt (qdo g x) d = false := by
  unfold qdo
  have h1 := qsrc_le g x
  split
  · exact qt_0 d hd
  · rw [qt_qb (by omega) hd]
    simp only [decide_eq_false_iff_not]
    omega
theorem qdir_bit (g : qG) (c : Nat) {d : Nat} (hd : d < 12) : qt (qdir g c) d = true ↔ (qsrc g (qL g c) = d ∨ qsrc g (qR g c) = d) := by
  unfold qdir
  rw [qt_or _ _ (by omega), Bool.or_eq_true, qdo_bit g _ hd, qdo_bit g _ hd]
theorem qdir_lt {g : qG} (hn : qn g ≤ 12) {c d : Nat} (hd : d < 32) (h : qt (qdir g c) d = true) : d < qn g := by
  rcases Nat.lt_or_ge d 12 with q | q
  · rcases (qdir_bit g c q).mp h with e | e
    · have := qsrc_lt hn (x := qL g c) (by omega); omega
    · have := qsrc_lt hn (x := qR g c) (by omega); omega
  · unfold qdir at h
    rw [qt_or _ _ hd, qdo_big g _ q hd, qdo_big g _ q hd] at h
    cases h
/-! ===== the closure ===== -/
theorem qwar_s (g : qG) (k c d : Nat) : qwar g (k + 1) c d = (qwar g k c d || (qwar g k c k && qwar g k k d)) := rfl
theorem qwar_up {g : qG} {k c d : Nat} (h : qwar g k c d = true) : qwar g (k + 1) c d = true := by rw [qwar_s, h]; rfl
theorem qwar_mono {g : qG} {k j c d : Nat} (hkj : k ≤ j) (h : qwar g k c d = true) : qwar g j c d = true := by
  induction hkj with
  | refl => exact h
  | step _ ih => exact qwar_up ih
theorem qwar_mid {g : qG} {k c : Nat} : qwar g (k + 1) c k = qwar g k c k := by
  rw [qwar_s]
  cases qwar g k c k <;> simp
theorem qwar_mid2 {g : qG} {k d : Nat} : qwar g (k + 1) k d = qwar g k k d := by
  rw [qwar_s]
  cases qwar g k k d <;> simp
theorem qwar_tr {g : qG} : ∀ (k e c d : Nat), e < k → qwar g k c e = true → qwar g k e d = true → qwar g k c d = true
  | 0, e, c, d, he, _, _ => absurd he (Nat.not_lt_zero e)
  | k + 1, e, c, d, he, h1, h2 => by
    have ih := qwar_tr (g := g) k
    rcases Nat.lt_or_ge e k with hek | hek
    · rw [qwar_s] at h1 h2 ⊢
      simp only [Bool.or_eq_true, Bool.and_eq_true] at h1 h2 ⊢
      rcases h1 with h1 | ⟨h1a, h1b⟩ <;> rcases h2 with h2 | ⟨h2a, h2b⟩
      · exact Or.inl (ih e c d hek h1 h2)
      · exact Or.inr ⟨ih e c k hek h1 h2a, h2b⟩
      · exact Or.inr ⟨h1a, ih e k d hek h1b h2⟩
      · exact Or.inr ⟨h1a, h2b⟩
    · have e1 : e = k := by omega
      subst e1
      rw [qwar_mid] at h1
      rw [qwar_mid2] at h2
      rw [qwar_s, h1, h2]
      simp
theorem qwar_lt {g : qG} (hn : qn g ≤ 12) : ∀ (k c d : Nat), d < 32 → qwar g k c d = true → d < qn g
  | 0, c, d, hd, h => qdir_lt hn hd h
  | k + 1, c, d, hd, h => by
    rw [qwar_s] at h
    simp only [Bool.or_eq_true, Bool.and_eq_true] at h
    rcases h with h | ⟨_, h⟩
    · exact qwar_lt hn k c d hd h
    · exact qwar_lt hn k k d hd h
theorem qall_tr {g : qG} {c e d : Nat} (he : e < qn g) (h1 : qall g c e = true) (h2 : qall g e d = true) : qall g c d = true := qwar_tr _ e c d he h1 h2
theorem qall_dir {g : qG} {c d : Nat} (h : qt (qdir g c) d = true) : qall g c d = true := qwar_mono (k := 0) (Nat.zero_le _) h
/-- sound, and complete up to a stage a row -/
def qSnd (g : qG) (A : Nat → Int32) : Prop := ∀ c d, c < qn g → d < qn g → qt (A c) d = true → qall g c d = true
def qCmp (g : qG) (A : Nat → Int32) (lim : Nat → Nat) : Prop := ∀ c d, c < qn g → d < qn g → qwar g (lim c) c d = true → qt (A c) d = true
def qlim (t c d : Nat) : Nat → Nat := fun c' => if c' < c ∨ (c' = c ∧ t < d) then t + 1 else t
theorem qlim_ge (t c d c' : Nat) : t ≤ qlim t c d c' := by unfold qlim; split <;> omega
theorem qstep {g : qG} (hn : qn g ≤ 12) {A B : Nat → Int32} {t c d : Nat} (ht : t < qn g) (hc : c < qn g) (hd : d < qn g) (hB : ∀ c', c' < qn g → c' ≠ c → B c' = A c') (hBc : B c = A c ||| (if qt (A c) d = true then A d else 0)) (hs : qSnd g A) (hm : qCmp g A (qlim t c d)) : qSnd g B ∧ qCmp g B (qlim t c (d + 1)) := by
  have bit : ∀ e, e < qn g → qt (B c) e = (qt (A c) e || (qt (A c) d && qt (A d) e)) := by
    intro e he
    rw [hBc, qt_or _ _ (by omega)]
    cases h : qt (A c) d
    · simp [qt_0 e (by omega)]
    · simp
  constructor
  · intro c' d' hc' hd' h
    by_cases e : c' = c
    · subst e
      rw [bit d' hd'] at h
      simp only [Bool.or_eq_true, Bool.and_eq_true] at h
      rcases h with h | ⟨h1, h2⟩
      · exact hs _ _ hc hd' h
      · exact qall_tr hd (hs _ _ hc hd h1) (hs _ _ hd hd' h2)
    · rw [hB c' hc' e] at h
      exact hs _ _ hc' hd' h
  · intro c' d' hc' hd' h
    by_cases e : c' = c
    · subst e
      rw [bit d' hd']
      simp only [Bool.or_eq_true, Bool.and_eq_true]
      by_cases htd : t = d
      · subst htd
        have e1 : qlim t c' (t + 1) c' = t + 1 := by unfold qlim; rw [if_pos (Or.inr ⟨rfl, by omega⟩)]
        have e2 : qlim t c' t c' = t := by unfold qlim; rw [if_neg (by omega)]
        rw [e1, qwar_s] at h
        simp only [Bool.or_eq_true, Bool.and_eq_true] at h
        rcases h with h | ⟨h1, h2⟩
        · exact Or.inl (hm c' d' hc hd' (by rw [e2]; exact h))
        · exact Or.inr ⟨hm c' t hc hd (by rw [e2]; exact h1), hm t d' hd hd' (qwar_mono (qlim_ge _ _ _ _) h2)⟩
      · have e1 : qlim t c' (d + 1) c' = qlim t c' d c' := by
          unfold qlim
          by_cases q : t < d
          · rw [if_pos (Or.inr ⟨rfl, by omega⟩), if_pos (Or.inr ⟨rfl, q⟩)]
          · rw [if_neg (by omega), if_neg (by omega)]
        rw [e1] at h
        exact Or.inl (hm c' d' hc hd' h)
    · rw [hB c' hc' e]
      refine hm c' d' hc' hd' ?_
      have e1 : qlim t c (d + 1) c' = qlim t c d c' := by
        unfold qlim
        by_cases q : c' < c
        · rw [if_pos (Or.inl q), if_pos (Or.inl q)]
        · rw [if_neg (by omega), if_neg (by omega)]
      rw [e1] at h
      exact h
theorem qCmp.le {g : qG} {A : Nat → Int32} {l1 l2 : Nat → Nat} (h : qCmp g A l1) (hl : ∀ c, c < qn g → l2 c ≤ l1 c) : qCmp g A l2 := fun c d hc hd q => h c d hc hd (qwar_mono (hl c hc) q)
/-- one row of one stage, in place -/
theorem qwstep {g : qG} (hn : qn g ≤ 12) {A B : Nat → Int32} {b c : Nat} (hb : b < qn g) (hc : c < qn g) (hB : ∀ c', c' < qn g → c' ≠ c → B c' = A c') (hBc : B c = (if qt (A c) b = true then A c ||| A b else A c)) (h : ∀ c' d', c' < qn g → d' < 32 → qt (A c') d' = qwar g (if c' < c then b + 1 else b) c' d') : ∀ c' d', c' < qn g → d' < 32 → qt (B c') d' = qwar g (if c' < c + 1 then b + 1 else b) c' d' := by
  intro c' d' hc' hd'
  by_cases e : c' = c
  · subst e
    rw [if_pos (by omega), hBc, qwar_s]
    have h1 := h c' d' hc' hd'
    have h2 := h c' b hc' (by omega)
    have h3 := h b d' hb hd'
    rw [if_neg (by omega)] at h1 h2
    have h4 : qt (A b) d' = qwar g b b d' := by
      rw [h3]
      split
      · exact qwar_mid2
      · rfl
    rw [← h1, ← h2, ← h4]
    cases qt (A c') b
    · simp
    · simp [qt_or _ _ hd']
  · rw [hB c' hc' e, h c' d' hc' hd']
    by_cases q : c' < c
    · rw [if_pos q, if_pos (by omega)]
    · rw [if_neg q, if_neg (by omega)]
/-! ===== the run order ===== -/
-- pasted from kit/laws/COUNTS.to-paste (fb_holes)
theorem fb_holes : ∀ (m n : Nat) (f : Nat → Nat), (∀ i, i < n → f i < m) → (∀ i j, i < j → j < n → f i ≠ f j) → n ≤ m := by
  intro m
  induction m with
  | zero =>
    intro n f h1 _
    rcases Nat.eq_zero_or_pos n with h | h
    · omega
    · exact absurd (h1 0 h) (Nat.not_lt_zero _)
  | succ m ih =>
    intro n f h1 h2
    by_cases hx : ∃ i, i < n ∧ f i = m
    · obtain ⟨a, ha, hfa⟩ := hx
      have hg := ih (n - 1) (fun i => if i < a then f i else f (i + 1)) (by
        intro i hi
        by_cases q : i < a
        · simp only [if_pos q]
          have b1 := h1 i (by omega)
          have b2 := h2 i a q ha
          omega
        · simp only [if_neg q]
          have b1 := h1 (i + 1) (by omega)
          have b2 := h2 a (i + 1) (by omega) (by omega)
          omega) (by
        intro i j hij hj
        by_cases q : i < a
        · by_cases r : j < a
          · simp only [if_pos q, if_pos r]
            exact h2 i j hij (by omega)
          · simp only [if_pos q, if_neg r]
            exact h2 i (j + 1) (by omega) (by omega)
        · have r : ¬ j < a := by omega
          simp only [if_neg q, if_neg r]
          exact h2 (i + 1) (j + 1) (by omega) (by omega))
      omega
    · have hg := ih n f (fun i hi => by
        have b1 := h1 i hi
        have b2 : f i ≠ m := fun e => hx ⟨i, hi, e⟩
        omega) h2
      omega
-- end of what is pasted
theorem qo_le (g : qG) (k : Nat) : qo g k ≤ qn g := qfst_le _ _
theorem qpl_bit {g : qG} (hn : qn g ≤ 12) {d : Nat} (hd : d < 32) : ∀ k, (qt (qpl g k) d = true ↔ ∃ j, j < k ∧ qo g j = d)
  | 0 => by
    rw [qpl, qt_0 d hd]
    constructor
    · intro h; cases h
    · rintro ⟨j, hj, -⟩; omega
  | k + 1 => by
    have ih := qpl_bit hn hd k
    have hle := qo_le g k
    rw [qpl, qt_or _ _ hd, Bool.or_eq_true, ih]
    show _ ∨ qt (qb (qo g k)) d = true ↔ _
    rw [qt_qb (by omega) hd]
    simp only [decide_eq_true_eq]
    constructor
    · rintro (⟨j, hj, h⟩ | h)
      · exact ⟨j, by omega, h⟩
      · exact ⟨k, by omega, h.symm⟩
    · rintro ⟨j, hj, h⟩
      by_cases e : j = k
      · subst e; exact Or.inr h.symm
      · exact Or.inl ⟨j, by omega, h⟩
theorem qo_rdy {g : qG} {k : Nat} (h : qo g k < qn g) : qrdy g (qpl g k) (qo g k) = true := qfst_yes _ _ h
theorem qo_w {g : qG} {k : Nat} (h : qo g k < qn g) : qw g (qo g k) = 0 := by
  have h1 := qo_rdy h
  unfold qrdy at h1
  simp only [Bool.and_eq_true, decide_eq_true_eq] at h1
  exact h1.1
theorem qo_new {g : qG} {k : Nat} (h : qo g k < qn g) : qt (qpl g k) (qo g k) = false := by
  have h1 := qo_rdy h
  unfold qrdy at h1
  simp only [Bool.and_eq_true, Bool.not_eq_true', decide_eq_true_eq] at h1
  exact h1.2.1
theorem qo_dir {g : qG} {k : Nat} (h : qo g k < qn g) {d : Nat} (hd : d < 32) (hb : qt (qdir g (qo g k)) d = true) : qt (qpl g k) d = true := by
  have h1 := qo_rdy h
  unfold qrdy at h1
  simp only [Bool.and_eq_true, Bool.not_eq_true', decide_eq_true_eq] at h1
  exact qt_diff.mp h1.2.2 d hd hb
theorem qo_ne {g : qG} (hn : qn g ≤ 12) {i j : Nat} (hij : i < j) (h : qo g j < qn g) : qo g i ≠ qo g j := by
  intro e
  have h1 := qo_new h
  have h2 := (qpl_bit hn (d := qo g j) (by omega) j).mpr ⟨i, hij, e⟩
  rw [h1] at h2
  cases h2
theorem qo_few {g : qG} (hn : qn g ≤ 12) {k : Nat} (h : ∀ j, j < k → qo g j < qn g) : k ≤ qn g := fb_holes (qn g) k (qo g) h (fun i j hij hj => qo_ne hn hij (h j hj))
theorem qm_le (g : qG) : qm g ≤ qn g := qfst_le _ _
theorem qm_lt {g : qG} {k : Nat} (h : k < qm g) : qo g k < qn g := by
  have h1 := qfst_no (fun k => decide (qo g k = qn g)) (qn g) k h
  have h2 := qo_le g k
  simp only [decide_eq_false_iff_not] at h1
  omega
theorem qm_end {g : qG} (hn : qn g ≤ 12) : qo g (qm g) = qn g := by
  have hle := qo_le g (qm g)
  rcases Nat.lt_or_ge (qo g (qm g)) (qn g) with h | h
  · have h1 := qo_few hn (k := qm g + 1) (fun j hj => by
      rcases Nat.lt_or_ge j (qm g) with q | q
      · exact qm_lt q
      · rw [show j = qm g by omega]; exact h)
    have h2 := qfst_yes (fun k => decide (qo g k = qn g)) (qn g) (show qm g < qn g by omega)
    have h3 : qo g (qm g) = qn g := of_decide_eq_true h2
    omega
  · omega
theorem qm_at {g : qG} (hn : qn g ≤ 12) {k : Nat} (h : ∀ j, j < k → qo g j < qn g) (he : qo g k = qn g) : qm g = k := by
  rcases Nat.lt_trichotomy (qm g) k with q | q | q
  · have h1 := h _ q
    have h2 := qm_end hn
    omega
  · exact q
  · have h1 := qm_lt q
    omega
/-- a cell of the order: its dependencies stand before it -/
theorem qo_dep {g : qG} (hn : qn g ≤ 12) {k : Nat} (h : qo g k < qn g) {x : Int32} (hx : x = qL g (qo g k) ∨ x = qR g (qo g k)) (hs : qsrc g x < 12) : ∃ j, j < k ∧ qo g j = qsrc g x := by
  have h1 : qt (qdir g (qo g k)) (qsrc g x) = true := by
    rw [qdir_bit g _ hs]
    rcases hx with rfl | rfl
    · exact Or.inl rfl
    · exact Or.inr rfl
  exact (qpl_bit hn (by omega) k).mp (qo_dir h (by omega) h1)
end
section
set_option maxRecDepth 100000 in
set_option maxHeartbeats 4000000 in
theorem c_X4_in (l : Launch) (Y : gL) (σ : gS) (v lo hi : Int32) : gM l yX4_in cX4_in 3 (some .boolean) (gRm 0 0) Y [.int v, .int lo, .int hi] σ (gI fun r τ => σ = τ ∧ ((r = 1 ∧ (¬ v < lo ∧ ¬ hi < v)) ∨ (r = 0 ∧ ¬ (¬ v < lo ∧ ¬ hi < v)))) := by
  refine gM.of (by decide) rfl ?_
  intro p e s m args below meth c hC
  have hX := hC.1
  refine gx_iload_n hX 0 dX4_in_0 rfl rfl ?_
  refine gx_iload_n hX 1 dX4_in_1 rfl rfl ?_
  refine gx_icmp_lt (tgt := 14) hX dX4_in_2 (by decide) rfl (fun h2 => ?_) (fun h2 => ?_)
  · refine gx_iconst (v := 0) hX dX4_in_14 rfl (by decide) ?_
    exact gx_zret hC rfl dX4_in_15 (⟨rfl, by simp_all⟩)
  · refine gx_iload_n hX 0 dX4_in_5 rfl rfl ?_
    refine gx_iload_n hX 2 dX4_in_6 rfl rfl ?_
    refine gx_icmp_gt (tgt := 14) hX dX4_in_7 (by decide) rfl (fun h7 => ?_) (fun h7 => ?_)
    · refine gx_iconst (v := 0) hX dX4_in_14 rfl (by decide) ?_
      exact gx_zret hC rfl dX4_in_15 (⟨rfl, by simp_all⟩)
    · refine gx_iconst (v := 1) hX dX4_in_10 rfl (by decide) ?_
      refine gx_goto (pc' := 15) hX dX4_in_11 (by decide) ?_
      exact gx_zret hC rfl dX4_in_15 (⟨rfl, by simp_all⟩)

set_option maxRecDepth 100000 in
set_option maxHeartbeats 4000000 in
theorem c_X4_at (l : Launch) (Y : gL) (σ : gS) (i j : Nat) : gM l yX4_at cX4_at 2 (some .int) (gRm 0 0) Y [.int (nI i), .int (nI j)] σ (gI fun r τ => σ = τ ∧ nI (17 + 10 * i + j) = r) := by
  refine gM.of (by decide) rfl ?_
  intro p e s m args below meth c hC
  have hX := hC.1
  refine gx_bipush (v := 17) hX dX4_at_0 rfl (by decide) ?_
  refine gx_bipush (v := 10) hX dX4_at_2 rfl (by decide) ?_
  refine gx_iload_n hX 0 dX4_at_4 rfl rfl ?_
  refine gx_imulN (i := 10) (j := i) hX dX4_at_5 rfl rfl rfl ?_
  refine gx_iaddN (i := 17) (j := 10 * i) hX dX4_at_6 rfl rfl rfl ?_
  refine gx_iload_n hX 1 dX4_at_7 rfl rfl ?_
  refine gx_iaddN (i := 17 + (10 * i)) (j := j) hX dX4_at_8 rfl rfl rfl ?_
  exact gx_iret hC dX4_at_9 (⟨rfl, rfl⟩)

set_option maxRecDepth 100000 in
set_option maxHeartbeats 4000000 in
theorem c_X4_get (l : Launch) (Y : gL) (mo : Nat) (σ : gS) (r : Nat → Int32) (i j : Nat) (hM : gLM Y mo) (hr : σ.1 (gF Y mo 0) = r) (hij : 17 + 10 * i + j < 137) : gM l yX4_get cX4_get 3 (some .int) (gRm 1 21) Y [.ref mo, .int (nI i), .int (nI j)] σ (gI fun v τ => σ = τ ∧ r (17 + 10 * i + j) = v) := by
  refine gM.of (by decide) rfl ?_
  intro p e s m args below meth c hC
  have hX := hC.1
  refine gx_aload_n hX 0 dX4_get_0 rfl rfl ?_
  refine gx_get hC 0 inlX4 wf_RX4_7 rfl (gM0 hM) rfl rfl rfl rfl dX4_get_1 rfl ?_
  refine gx_iload_n hX 1 dX4_get_4 rfl rfl ?_
  refine gx_iload_n hX 2 dX4_get_5 rfl rfl ?_
  refine gx_callS (As := [.int (nI i), .int (nI j)]) (st := [.ref (gF Y mo 0)]) hC (c_X4_at l Y σ i j) kX4_at wm_RX4_38 rfl rfl rfl rfl dX4_get_6 rfl (gx_ki fun r6 τ6 hq6 => ?_)
  obtain ⟨rfl, rfl⟩ := hq6
  refine gx_iald (i := 17 + 10 * i + j) hC (gM1 hM) rfl rfl (by omega) rfl dX4_get_9 rfl ?_
  exact gx_iret hC dX4_get_10 (⟨rfl, by rw [hr]⟩)

set_option maxRecDepth 100000 in
set_option maxHeartbeats 4000000 in
theorem c_X4_isCell (l : Launch) (Y : gL) (mo : Nat) (σ : gS) (r : Nat → Int32) (n : Nat) (hM : gLM Y mo) (hr : gRow Y mo σ r n) (x : Int32) : gM l yX4_isCell cX4_isCell 2 (some .boolean) (gRm 1 22) Y [.ref mo, .int x] σ (gI fun v τ => σ = τ ∧ ((v = 1 ∧ ∃ j, j < n ∧ x = nI j) ∨ (v = 0 ∧ ¬ ∃ j, j < n ∧ x = nI j))) := by
  have hr1 := hr.1
  have hr2 := hr.2.1
  have hr3 := hr.2.2
  refine gM.of (by decide) rfl ?_
  intro p e s m args below meth c hC
  have hX := hC.1
  refine gx_iload_n hX 1 dX4_isCell_0 rfl rfl ?_
  refine gx_iconst (v := 0) hX dX4_isCell_1 rfl (by decide) ?_
  refine gx_aload_n hX 0 dX4_isCell_2 rfl rfl ?_
  refine gx_get hC 0 inlX4 wf_RX4_7 rfl (gM0 hM) rfl rfl rfl rfl dX4_isCell_3 rfl ?_
  refine gx_iconst (v := 0) hX dX4_isCell_6 rfl (by decide) ?_
  refine gx_iald (i := 0) hC (gM1 hM) rfl rfl (by omega) rfl dX4_isCell_7 rfl ?_
  refine gx_topi (b := (nI n)) (by rw [hr1]; exact hr2) ?_
  refine gx_iconst (v := 1) hX dX4_isCell_8 rfl (by decide) ?_
  refine gx_isub hX dX4_isCell_9 rfl ?_
  refine gx_callS (As := [.int x, .int 0, .int ((nI n) - 1)]) (st := []) hC (c_X4_in l Y σ x 0 ((nI n) - 1)) kX4_in wm_RX4_42 rfl rfl rfl rfl dX4_isCell_10 rfl (gx_ki fun r10 τ10 hq10 => ?_)
  obtain ⟨rfl, ⟨rfl, hb10⟩ | ⟨rfl, hb10⟩⟩ := hq10
  · exact gx_zret hC rfl dX4_isCell_13 (⟨rfl, by rw [← qicell hr3]; simp_all⟩)
  · exact gx_zret hC rfl dX4_isCell_13 (⟨rfl, by rw [← qicell hr3]; simp_all⟩)

set_option maxRecDepth 100000 in
set_option maxHeartbeats 4000000 in
theorem c_X4_error (l : Launch) (Y : gL) (mo : Nat) (σ : gS) (k : Nat) (x : Int32) (hM : gLM Y mo) (hk : k < 3) (hx : -10002 - x = nI k) : gM l yX4_error cX4_error 2 (some .int) (gRm 0 0) Y [.ref mo, .int x] σ (gI fun v τ => x = v ∧ uI σ (gF Y mo 3) k (σ.1 (gF Y mo 3) k + 1) = τ) := by
  refine gM.of (by decide) rfl ?_
  intro p e s m args below meth c hC
  have hX := hC.1
  refine gx_aload_n hX 0 dX4_error_0 rfl rfl ?_
  refine gx_get hC 3 inlX4 wf_RX4_16 rfl (gM0 hM) rfl rfl rfl rfl dX4_error_1 rfl ?_
  refine gx_sipush (v := (-10002)) hX dX4_error_4 rfl (by decide) ?_
  refine gx_iload_n hX 1 dX4_error_7 rfl rfl ?_
  refine gx_isub hX dX4_error_8 rfl ?_
  refine gx_topi (b := (nI k)) hx ?_
  refine gx_dup2 hX dX4_error_9 rfl rfl rfl ?_
  refine gx_iald (i := k) hC (gM3 hM) rfl rfl (by omega) rfl dX4_error_10 rfl ?_
  refine gx_iconst (v := 1) hX dX4_error_11 rfl (by decide) ?_
  refine gx_iadd hX dX4_error_12 rfl ?_
  refine gx_iast (i := k) hC (gM3 hM) rfl rfl rfl rfl (by omega) rfl dX4_error_13 rfl ?_
  refine gx_iload_n hX 1 dX4_error_14 rfl rfl ?_
  exact gx_iret hC dX4_error_15 (⟨rfl, rfl⟩)

set_option maxRecDepth 100000 in
set_option maxHeartbeats 4000000 in
theorem c_X4_definersOf (l : Launch) (Y : gL) (mo : Nat) (σ : gS) (r : Nat → Int32) (n : Nat) (hM : gLM Y mo) (hr : gRow Y mo σ r n) (x : Int32) : gM l yX4_definersOf cX4_definersOf 4 (some .int) (gRm 2 43) Y [.ref mo, .int x] σ (gI fun v τ => σ = τ ∧ qdf (qg r n) x = v) := by
  have hr1 := hr.1
  have hr2 := hr.2.1
  have hr3 := hr.2.2
  refine gM.of (by decide) rfl ?_
  intro p e s m args below meth c hC
  have hX := hC.1
  refine gx_iconst (v := 0) hX dX4_definersOf_0 rfl (by decide) ?_
  refine gx_istore_n (lv' := [(2, .int 0), (0, .ref mo), (1, .int x)]) hX dX4_definersOf_1 rfl (by decide) rfl ?_
  refine gx_iconst (v := 0) hX dX4_definersOf_2 rfl (by decide) ?_
  refine gx_istore_n (lv' := [(3, .int 0), (2, .int 0), (0, .ref mo), (1, .int x)]) hX dX4_definersOf_3 rfl (by decide) rfl ?_
  have L4 : ∀ (k4 : Nat) (i : Nat), n - i < k4 → (i ≤ n) → gG p l e (gRm 2 43) s m args below meth c Y (gI fun v τ => σ = τ ∧ qdf (qg r n) x = v) σ 4 [(0, .ref mo), (1, .int x), (2, .int (qdfn (qV (qg r n)) x i)), (3, .int (nI i))] [] := by
    intro k4
    induction k4 with
    | zero => intro i hk4; exact absurd hk4 (Nat.not_lt_zero _)
    | succ k4 ih4 =>
      intro i hk4 hi
      refine gx_iload_n hX 3 dX4_definersOf_4 rfl rfl ?_
      refine gx_aload_n hX 0 dX4_definersOf_5 rfl rfl ?_
      refine gx_get hC 0 inlX4 wf_RX4_7 rfl (gM0 hM) rfl rfl rfl rfl dX4_definersOf_6 rfl ?_
      refine gx_iconst (v := 0) hX dX4_definersOf_9 rfl (by decide) ?_
      refine gx_iald (i := 0) hC (gM1 hM) rfl rfl (by omega) rfl dX4_definersOf_10 rfl ?_
      refine gx_topi (b := (nI n)) (by rw [hr1]; exact hr2) ?_
      refine gx_nat_ge (i := i) (j := n) (tgt := 40) hX dX4_definersOf_11 (by decide) rfl rfl rfl (by omega) (by omega) (fun h11 => ?_) (fun h11 => ?_)
      · refine gx_iload_n hX 2 dX4_definersOf_40 rfl rfl ?_
        exact gx_iret hC dX4_definersOf_41 (⟨rfl, by rw [show i = n by omega]; rfl⟩)
      · refine gx_iload_n hX 2 dX4_definersOf_14 rfl rfl ?_
        refine gx_aload_n hX 0 dX4_definersOf_15 rfl rfl ?_
        refine gx_iload_n hX 3 dX4_definersOf_16 rfl rfl ?_
        refine gx_iconst (v := 0) hX dX4_definersOf_17 rfl (by decide) ?_
        refine gx_callV (As := [.int (nI i), .int 0]) (st := [.int (qdfn (qV (qg r n)) x i)]) hC (c_X4_get l Y mo σ r i 0 hM hr.1 (by omega)) kX4_get wm_RX4_50 rfl (gM0 hM) rfl rfl rfl rfl rfl dX4_definersOf_18 rfl (gx_ki fun r18 τ18 hq18 => ?_)
        obtain ⟨rfl, rfl⟩ := hq18
        refine gx_iload_n hX 1 dX4_definersOf_21 rfl rfl ?_
        refine gx_icmp_ne (tgt := 31) hX dX4_definersOf_22 (by decide) rfl (fun h22 => ?_) (fun h22 => ?_)
        · refine gx_iconst (v := 0) hX dX4_definersOf_31 rfl (by decide) ?_
          refine gx_ior hX dX4_definersOf_32 rfl ?_
          refine gx_topi (b := (qdfn (qV (qg r n)) x (i + 1))) (by rw [qdfn]; show _ = _ ||| (if r (17 + 10 * i + 0) = x then qb i else 0); first | (rw [if_pos h22]; rfl) | (rw [if_neg h22])) ?_
          refine gx_istore_n (lv' := [(2, .int (qdfn (qV (qg r n)) x (i + 1))), (0, .ref mo), (1, .int x), (3, .int (nI i))]) hX dX4_definersOf_33 rfl (by decide) rfl ?_
          refine gx_iinc (w := (nI (i + 1))) (lv' := [(3, .int (nI (i + 1))), (2, .int (qdfn (qV (qg r n)) x (i + 1))), (0, .ref mo), (1, .int x)]) hX 3 dX4_definersOf_34 rfl rfl (nI_add _ _) (by decide) rfl ?_
          refine gx_goto (pc' := 4) hX dX4_definersOf_37 (by decide) ?_
          exact gx_sub [2, 3, 1, 0] rfl (ih4 (i + 1) (by omega) (by omega))
        · refine gx_iconst (v := 1) hX dX4_definersOf_25 rfl (by decide) ?_
          refine gx_iload_n hX 3 dX4_definersOf_26 rfl rfl ?_
          refine gx_ishl hX dX4_definersOf_27 rfl ?_
          refine gx_goto (pc' := 32) hX dX4_definersOf_28 (by decide) ?_
          refine gx_ior hX dX4_definersOf_32 rfl ?_
          refine gx_topi (b := (qdfn (qV (qg r n)) x (i + 1))) (by rw [qdfn]; show _ = _ ||| (if r (17 + 10 * i + 0) = x then qb i else 0); first | (rw [if_pos h22]; rfl) | (rw [if_neg h22])) ?_
          refine gx_istore_n (lv' := [(2, .int (qdfn (qV (qg r n)) x (i + 1))), (0, .ref mo), (1, .int x), (3, .int (nI i))]) hX dX4_definersOf_33 rfl (by decide) rfl ?_
          refine gx_iinc (w := (nI (i + 1))) (lv' := [(3, .int (nI (i + 1))), (2, .int (qdfn (qV (qg r n)) x (i + 1))), (0, .ref mo), (1, .int x)]) hX 3 dX4_definersOf_34 rfl rfl (nI_add _ _) (by decide) rfl ?_
          refine gx_goto (pc' := 4) hX dX4_definersOf_37 (by decide) ?_
          exact gx_sub [2, 3, 1, 0] rfl (ih4 (i + 1) (by omega) (by omega))
  exact gx_sub [2, 3, 1, 0] rfl (L4 (n + 1) 0 (by omega) (by omega))

set_option maxRecDepth 100000 in
set_option maxHeartbeats 4000000 in
theorem c_X4_only (l : Launch) (Y : gL) (σ : gS) (x : Int32) : gM l yX4_only cX4_only 2 (some .int) (gRm 0 0) Y [.int x] σ (gI fun v τ => σ = τ ∧ ((nI (qonl x) = v ∧ qonl x < 12) ∨ (-10001 = v ∧ qonl x = 12))) := by
  refine gM.of (by decide) rfl ?_
  intro p e s m args below meth c hC
  have hX := hC.1
  refine gx_iconst (v := 0) hX dX4_only_0 rfl (by decide) ?_
  refine gx_istore_n (lv' := [(1, .int 0), (0, .int x)]) hX dX4_only_1 rfl (by decide) rfl ?_
  have L2 : ∀ (k2 : Nat) (i : Nat), 12 - i < k2 → (i ≤ 12) → (∀ j, j < i → ¬ x = qb j) → gG p l e (gRm 0 0) s m args below meth c Y (gI fun v τ => σ = τ ∧ ((nI (qonl x) = v ∧ qonl x < 12) ∨ (-10001 = v ∧ qonl x = 12))) σ 2 [(0, .int x), (1, .int (nI i))] [] := by
    intro k2
    induction k2 with
    | zero => intro i hk2; exact absurd hk2 (Nat.not_lt_zero _)
    | succ k2 ih2 =>
      intro i hk2 hi hno
      refine gx_iload_n hX 1 dX4_only_2 rfl rfl ?_
      refine gx_bipush (v := 12) hX dX4_only_3 rfl (by decide) ?_
      refine gx_nat_ge (i := i) (j := 12) (tgt := 23) hX dX4_only_5 (by decide) rfl rfl rfl (by omega) (by omega) (fun h5 => ?_) (fun h5 => ?_)
      · refine gx_sipush (v := (-10001)) hX dX4_only_23 rfl (by decide) ?_
        exact gx_iret hC dX4_only_26 (⟨rfl, Or.inr ⟨rfl, qfst_none (fun j hj => by simpa using hno j (by omega))⟩⟩)
      · refine gx_iload_n hX 0 dX4_only_8 rfl rfl ?_
        refine gx_iconst (v := 1) hX dX4_only_9 rfl (by decide) ?_
        refine gx_iload_n hX 1 dX4_only_10 rfl rfl ?_
        refine gx_ishl hX dX4_only_11 rfl ?_
        refine gx_icmp_ne (tgt := 17) hX dX4_only_12 (by decide) rfl (fun h12 => ?_) (fun h12 => ?_)
        · refine gx_iinc (w := (nI (i + 1))) (lv' := [(1, .int (nI (i + 1))), (0, .int x)]) hX 1 dX4_only_17 rfl rfl (nI_add _ _) (by decide) rfl ?_
          refine gx_goto (pc' := 2) hX dX4_only_20 (by decide) ?_
          exact gx_sub [1, 0] rfl (ih2 (i + 1) (by omega) (by omega) (fun j hj => by rcases Nat.lt_or_ge j i with q | q; exact hno j q; rw [show j = i by omega]; exact h12))
        · refine gx_iload_n hX 1 dX4_only_15 rfl rfl ?_
          exact gx_iret hC dX4_only_16 (⟨rfl, Or.inl (by have e : qonl x = i := qonl_at (by omega) h12; rw [e]; exact ⟨rfl, by omega⟩)⟩)
  exact gx_sub [1, 0] rfl (L2 13 0 (by omega) (by omega) (fun j hj => absurd hj (Nat.not_lt_zero j)))

set_option maxRecDepth 100000 in
set_option maxHeartbeats 4000000 in
theorem c_X4_source (l : Launch) (Y : gL) (mo : Nat) (σ : gS) (r : Nat → Int32) (n : Nat) (hM : gLM Y mo) (hr : gRow Y mo σ r n) (x : Int32) : gM l yX4_source cX4_source 2 (some .int) (gRm 3 66) Y [.ref mo, .int x] σ (gI fun v τ => σ = τ ∧ ((nI (qsrc (qg r n) x) = v ∧ qsrc (qg r n) x < 12) ∨ (-10001 = v ∧ qsrc (qg r n) x = 12))) := by
  have hr1 := hr.1
  have hr2 := hr.2.1
  have hr3 := hr.2.2
  refine gM.of (by decide) rfl ?_
  intro p e s m args below meth c hC
  have hX := hC.1
  refine gx_iload_n hX 1 dX4_source_0 rfl rfl ?_
  refine gx_bipush (v := 100) hX dX4_source_1 rfl (by decide) ?_
  refine gx_icmp_ge (tgt := 12) hX dX4_source_3 (by decide) rfl (fun h3 => ?_) (fun h3 => ?_)
  · refine gx_aload_n hX 0 dX4_source_12 rfl rfl ?_
    refine gx_iload_n hX 1 dX4_source_13 rfl rfl ?_
    refine gx_bipush (v := 100) hX dX4_source_14 rfl (by decide) ?_
    refine gx_isub hX dX4_source_16 rfl ?_
    refine gx_callV (As := [.int (x - 100)]) (st := []) hC (c_X4_definersOf l Y mo σ r n hM hr (x - 100)) kX4_definersOf wm_RX4_53 rfl (gM0 hM) rfl rfl rfl rfl rfl dX4_source_17 rfl (gx_ki fun r17 τ17 hq17 => ?_)
    obtain ⟨rfl, rfl⟩ := hq17
    refine gx_callS (As := [.int (qdf (qg r n) (x - 100))]) (st := []) hC (c_X4_only l Y σ ((qdf (qg r n) (x - 100)))) kX4_only wm_RX4_57 rfl rfl rfl rfl dX4_source_20 rfl (gx_ki fun r20 τ20 hq20 => ?_)
    obtain ⟨rfl, ⟨rfl, hb20⟩ | ⟨rfl, hb20⟩⟩ := hq20
    · exact gx_iret hC dX4_source_23 (⟨rfl, by unfold qsrc; first | (rw [if_neg (qge100.mp h3)]; simp_all) | (rw [if_pos (Decidable.not_not.mp (fun q => h3 (qge100.mpr q)))]; simp)⟩)
    · exact gx_iret hC dX4_source_23 (⟨rfl, by unfold qsrc; first | (rw [if_neg (qge100.mp h3)]; simp_all) | (rw [if_pos (Decidable.not_not.mp (fun q => h3 (qge100.mpr q)))]; simp)⟩)
  · refine gx_sipush (v := (-10001)) hX dX4_source_6 rfl (by decide) ?_
    refine gx_goto (pc' := 23) hX dX4_source_9 (by decide) ?_
    exact gx_iret hC dX4_source_23 (⟨rfl, by unfold qsrc; first | (rw [if_neg (qge100.mp h3)]; simp_all) | (rw [if_pos (Decidable.not_not.mp (fun q => h3 (qge100.mpr q)))]; simp)⟩)

set_option maxRecDepth 100000 in
set_option maxHeartbeats 4000000 in
theorem c_X4_isUndefined (l : Launch) (Y : gL) (mo : Nat) (σ : gS) (r : Nat → Int32) (n : Nat) (hM : gLM Y mo) (hr : gRow Y mo σ r n) (x : Int32) : gM l yX4_isUndefined cX4_isUndefined 2 (some .boolean) (gRm 3 66) Y [.ref mo, .int x] σ (gI fun v τ => σ = τ ∧ ((v = 1 ∧ qundB (qg r n) x = true) ∨ (v = 0 ∧ ¬ qundB (qg r n) x = true))) := by
  have hr1 := hr.1
  have hr2 := hr.2.1
  have hr3 := hr.2.2
  refine gM.of (by decide) rfl ?_
  intro p e s m args below meth c hC
  have hX := hC.1
  refine gx_iload_n hX 1 dX4_isUndefined_0 rfl rfl ?_
  refine gx_bipush (v := 99) hX dX4_isUndefined_1 rfl (by decide) ?_
  refine gx_icmp_le (tgt := 21) hX dX4_isUndefined_3 (by decide) rfl (fun h3 => ?_) (fun h3 => ?_)
  · refine gx_iconst (v := 0) hX dX4_isUndefined_21 rfl (by decide) ?_
    exact gx_zret hC rfl dX4_isUndefined_22 (⟨rfl, by unfold qundB; simp_all [qle99]⟩)
  · refine gx_aload_n hX 0 dX4_isUndefined_6 rfl rfl ?_
    refine gx_iload_n hX 1 dX4_isUndefined_7 rfl rfl ?_
    refine gx_bipush (v := 100) hX dX4_isUndefined_8 rfl (by decide) ?_
    refine gx_isub hX dX4_isUndefined_10 rfl ?_
    refine gx_callV (As := [.int (x - 100)]) (st := []) hC (c_X4_definersOf l Y mo σ r n hM hr (x - 100)) kX4_definersOf wm_RX4_53 rfl (gM0 hM) rfl rfl rfl rfl rfl dX4_isUndefined_11 rfl (gx_ki fun r11 τ11 hq11 => ?_)
    obtain ⟨rfl, rfl⟩ := hq11
    refine gx_if_ne (tgt := 21) hX dX4_isUndefined_14 (by decide) rfl (fun h14 => ?_) (fun h14 => ?_)
    · refine gx_iconst (v := 0) hX dX4_isUndefined_21 rfl (by decide) ?_
      exact gx_zret hC rfl dX4_isUndefined_22 (⟨rfl, by unfold qundB; simp_all [qle99]⟩)
    · refine gx_iconst (v := 1) hX dX4_isUndefined_17 rfl (by decide) ?_
      refine gx_goto (pc' := 22) hX dX4_isUndefined_18 (by decide) ?_
      exact gx_zret hC rfl dX4_isUndefined_22 (⟨rfl, by unfold qundB; simp_all [qle99]⟩)

set_option maxRecDepth 100000 in
set_option maxHeartbeats 4000000 in
theorem c_X4_isBad (l : Launch) (Y : gL) (mo : Nat) (σ : gS) (r : Nat → Int32) (n : Nat) (hM : gLM Y mo) (hr : gRow Y mo σ r n) (w : Nat → Int32) (hw : ∀ d, d < n → σ.1 (gF Y mo 5) d = w d) (x : Int32) : gM l yX4_isBad cX4_isBad 4 (some .boolean) (gRm 3 66) Y [.ref mo, .int x] σ (gI fun v τ => σ = τ ∧ ((v = 1 ∧ qbad (qg r n) w x = true) ∨ (v = 0 ∧ ¬ qbad (qg r n) w x = true))) := by
  have hr1 := hr.1
  have hr2 := hr.2.1
  have hr3 := hr.2.2
  refine gM.of (by decide) rfl ?_
  intro p e s m args below meth c hC
  have hX := hC.1
  refine gx_iload_n hX 1 dX4_isBad_0 rfl rfl ?_
  refine gx_bipush (v := 100) hX dX4_isBad_1 rfl (by decide) ?_
  refine gx_icmp_ge (tgt := 10) hX dX4_isBad_3 (by decide) rfl (fun h3 => ?_) (fun h3 => ?_)
  · refine gx_aload_n hX 0 dX4_isBad_10 rfl rfl ?_
    refine gx_iload_n hX 1 dX4_isBad_11 rfl rfl ?_
    refine gx_bipush (v := 100) hX dX4_isBad_12 rfl (by decide) ?_
    refine gx_isub hX dX4_isBad_14 rfl ?_
    refine gx_callV (As := [.int (x - 100)]) (st := []) hC (c_X4_definersOf l Y mo σ r n hM hr (x - 100)) kX4_definersOf wm_RX4_53 rfl (gM0 hM) rfl rfl rfl rfl rfl dX4_isBad_15 rfl (gx_ki fun r15 τ15 hq15 => ?_)
    obtain ⟨rfl, rfl⟩ := hq15
    refine gx_topi (b := (qused (qg r n) x)) (by unfold qused; rw [if_neg (qge100.mp h3)]) ?_
    refine gx_istore_n (lv' := [(2, .int (qused (qg r n) x)), (0, .ref mo), (1, .int x)]) hX dX4_isBad_18 rfl (by decide) rfl ?_
    refine gx_iconst (v := 0) hX dX4_isBad_19 rfl (by decide) ?_
    refine gx_istore_n (lv' := [(3, .int 0), (2, .int (qused (qg r n) x)), (0, .ref mo), (1, .int x)]) hX dX4_isBad_20 rfl (by decide) rfl ?_
    have L21 : ∀ (k21 : Nat) (i : Nat), n - i < k21 → (i ≤ n) → (∀ j, j < i → ¬ (qt (qused (qg r n) x) j = true ∧ w j ≠ 0)) → gG p l e (gRm 3 66) s m args below meth c Y (gI fun v τ => σ = τ ∧ ((v = 1 ∧ qbad (qg r n) w x = true) ∨ (v = 0 ∧ ¬ qbad (qg r n) w x = true))) σ 21 [(0, .ref mo), (1, .int x), (2, .int (qused (qg r n) x)), (3, .int (nI i))] [] := by
      intro k21
      induction k21 with
      | zero => intro i hk21; exact absurd hk21 (Nat.not_lt_zero _)
      | succ k21 ih21 =>
        intro i hk21 hi hno
        refine gx_iload_n hX 3 dX4_isBad_21 rfl rfl ?_
        refine gx_aload_n hX 0 dX4_isBad_22 rfl rfl ?_
        refine gx_get hC 0 inlX4 wf_RX4_7 rfl (gM0 hM) rfl rfl rfl rfl dX4_isBad_23 rfl ?_
        refine gx_iconst (v := 0) hX dX4_isBad_26 rfl (by decide) ?_
        refine gx_iald (i := 0) hC (gM1 hM) rfl rfl (by omega) rfl dX4_isBad_27 rfl ?_
        refine gx_topi (b := (nI n)) (by rw [hr1]; exact hr2) ?_
        refine gx_nat_ge (i := i) (j := n) (tgt := 57) hX dX4_isBad_28 (by decide) rfl rfl rfl (by omega) (by omega) (fun h28 => ?_) (fun h28 => ?_)
        · refine gx_iconst (v := 0) hX dX4_isBad_57 rfl (by decide) ?_
          exact gx_zret hC rfl dX4_isBad_58 (⟨rfl, Or.inr ⟨rfl, by unfold qbad; simp only [decide_eq_true_eq]; intro q; obtain ⟨d, hd, hp⟩ := qfst_lt.mp q; have hd2 : d < n := hd; have := hno d (by omega); simp_all⟩⟩)
        · refine gx_iload_n hX 2 dX4_isBad_31 rfl rfl ?_
          refine gx_iload_n hX 3 dX4_isBad_32 rfl rfl ?_
          refine gx_ishr hX dX4_isBad_33 rfl ?_
          refine gx_iconst (v := 1) hX dX4_isBad_34 rfl (by decide) ?_
          refine gx_iand hX dX4_isBad_35 rfl ?_
          refine gx_iconst (v := 1) hX dX4_isBad_36 rfl (by decide) ?_
          refine gx_icmp_ne (tgt := 51) hX dX4_isBad_37 (by decide) rfl (fun h37 => ?_) (fun h37 => ?_)
          · refine gx_iinc (w := (nI (i + 1))) (lv' := [(3, .int (nI (i + 1))), (0, .ref mo), (1, .int x), (2, .int (qused (qg r n) x))]) hX 3 dX4_isBad_51 rfl rfl (nI_add _ _) (by decide) rfl ?_
            refine gx_goto (pc' := 21) hX dX4_isBad_54 (by decide) ?_
            exact gx_sub [1, 2, 3, 0] rfl (ih21 (i + 1) (by omega) (by omega) (fun j hj => by rcases Nat.lt_or_ge j i with q | q; exact hno j q; rw [show j = i by omega, ← qt_iff, ← hw i (by omega)]; simp_all))
          · refine gx_aload_n hX 0 dX4_isBad_40 rfl rfl ?_
            refine gx_get hC 5 inlX4 wf_RX4_22 rfl (gM0 hM) rfl rfl rfl rfl dX4_isBad_41 rfl ?_
            refine gx_iload_n hX 3 dX4_isBad_44 rfl rfl ?_
            refine gx_iald (i := i) hC (gM5 hM) rfl rfl (by omega) rfl dX4_isBad_45 rfl ?_
            refine gx_if_eq (tgt := 51) hX dX4_isBad_46 (by decide) rfl (fun h46 => ?_) (fun h46 => ?_)
            · refine gx_iinc (w := (nI (i + 1))) (lv' := [(3, .int (nI (i + 1))), (0, .ref mo), (1, .int x), (2, .int (qused (qg r n) x))]) hX 3 dX4_isBad_51 rfl rfl (nI_add _ _) (by decide) rfl ?_
              refine gx_goto (pc' := 21) hX dX4_isBad_54 (by decide) ?_
              exact gx_sub [1, 2, 3, 0] rfl (ih21 (i + 1) (by omega) (by omega) (fun j hj => by rcases Nat.lt_or_ge j i with q | q; exact hno j q; rw [show j = i by omega, ← qt_iff, ← hw i (by omega)]; simp_all))
            · refine gx_iconst (v := 1) hX dX4_isBad_49 rfl (by decide) ?_
              exact gx_zret hC rfl dX4_isBad_50 (⟨rfl, Or.inl ⟨rfl, by unfold qbad; simp only [decide_eq_true_eq]; exact qfst_lt.mpr ⟨i, by show i < n; omega, by rw [qt_iff] at h37; rw [hw i (by omega)] at h46; simp_all⟩⟩⟩)
    exact gx_sub [2, 3, 1, 0] rfl (L21 (n + 1) 0 (by omega) (by omega) (fun j hj => absurd hj (Nat.not_lt_zero j)))
  · refine gx_iconst (v := 0) hX dX4_isBad_6 rfl (by decide) ?_
    refine gx_topi (b := (qused (qg r n) x)) (by unfold qused; rw [if_pos (Decidable.not_not.mp (fun q => h3 (qge100.mpr q)))]) ?_
    refine gx_goto (pc' := 18) hX dX4_isBad_7 (by decide) ?_
    refine gx_istore_n (lv' := [(2, .int (qused (qg r n) x)), (0, .ref mo), (1, .int x)]) hX dX4_isBad_18 rfl (by decide) rfl ?_
    refine gx_iconst (v := 0) hX dX4_isBad_19 rfl (by decide) ?_
    refine gx_istore_n (lv' := [(3, .int 0), (2, .int (qused (qg r n) x)), (0, .ref mo), (1, .int x)]) hX dX4_isBad_20 rfl (by decide) rfl ?_
    have L21 : ∀ (k21 : Nat) (i : Nat), n - i < k21 → (i ≤ n) → (∀ j, j < i → ¬ (qt (qused (qg r n) x) j = true ∧ w j ≠ 0)) → gG p l e (gRm 3 66) s m args below meth c Y (gI fun v τ => σ = τ ∧ ((v = 1 ∧ qbad (qg r n) w x = true) ∨ (v = 0 ∧ ¬ qbad (qg r n) w x = true))) σ 21 [(0, .ref mo), (1, .int x), (2, .int (qused (qg r n) x)), (3, .int (nI i))] [] := by
      intro k21
      induction k21 with
      | zero => intro i hk21; exact absurd hk21 (Nat.not_lt_zero _)
      | succ k21 ih21 =>
        intro i hk21 hi hno
        refine gx_iload_n hX 3 dX4_isBad_21 rfl rfl ?_
        refine gx_aload_n hX 0 dX4_isBad_22 rfl rfl ?_
        refine gx_get hC 0 inlX4 wf_RX4_7 rfl (gM0 hM) rfl rfl rfl rfl dX4_isBad_23 rfl ?_
        refine gx_iconst (v := 0) hX dX4_isBad_26 rfl (by decide) ?_
        refine gx_iald (i := 0) hC (gM1 hM) rfl rfl (by omega) rfl dX4_isBad_27 rfl ?_
        refine gx_topi (b := (nI n)) (by rw [hr1]; exact hr2) ?_
        refine gx_nat_ge (i := i) (j := n) (tgt := 57) hX dX4_isBad_28 (by decide) rfl rfl rfl (by omega) (by omega) (fun h28 => ?_) (fun h28 => ?_)
        · refine gx_iconst (v := 0) hX dX4_isBad_57 rfl (by decide) ?_
          exact gx_zret hC rfl dX4_isBad_58 (⟨rfl, Or.inr ⟨rfl, by unfold qbad; simp only [decide_eq_true_eq]; intro q; obtain ⟨d, hd, hp⟩ := qfst_lt.mp q; have hd2 : d < n := hd; have := hno d (by omega); simp_all⟩⟩)
        · refine gx_iload_n hX 2 dX4_isBad_31 rfl rfl ?_
          refine gx_iload_n hX 3 dX4_isBad_32 rfl rfl ?_
          refine gx_ishr hX dX4_isBad_33 rfl ?_
          refine gx_iconst (v := 1) hX dX4_isBad_34 rfl (by decide) ?_
          refine gx_iand hX dX4_isBad_35 rfl ?_
          refine gx_iconst (v := 1) hX dX4_isBad_36 rfl (by decide) ?_
          refine gx_icmp_ne (tgt := 51) hX dX4_isBad_37 (by decide) rfl (fun h37 => ?_) (fun h37 => ?_)
          · refine gx_iinc (w := (nI (i + 1))) (lv' := [(3, .int (nI (i + 1))), (0, .ref mo), (1, .int x), (2, .int (qused (qg r n) x))]) hX 3 dX4_isBad_51 rfl rfl (nI_add _ _) (by decide) rfl ?_
            refine gx_goto (pc' := 21) hX dX4_isBad_54 (by decide) ?_
            exact gx_sub [1, 2, 3, 0] rfl (ih21 (i + 1) (by omega) (by omega) (fun j hj => by rcases Nat.lt_or_ge j i with q | q; exact hno j q; rw [show j = i by omega, ← qt_iff, ← hw i (by omega)]; simp_all))
          · refine gx_aload_n hX 0 dX4_isBad_40 rfl rfl ?_
            refine gx_get hC 5 inlX4 wf_RX4_22 rfl (gM0 hM) rfl rfl rfl rfl dX4_isBad_41 rfl ?_
            refine gx_iload_n hX 3 dX4_isBad_44 rfl rfl ?_
            refine gx_iald (i := i) hC (gM5 hM) rfl rfl (by omega) rfl dX4_isBad_45 rfl ?_
            refine gx_if_eq (tgt := 51) hX dX4_isBad_46 (by decide) rfl (fun h46 => ?_) (fun h46 => ?_)
            · refine gx_iinc (w := (nI (i + 1))) (lv' := [(3, .int (nI (i + 1))), (0, .ref mo), (1, .int x), (2, .int (qused (qg r n) x))]) hX 3 dX4_isBad_51 rfl rfl (nI_add _ _) (by decide) rfl ?_
              refine gx_goto (pc' := 21) hX dX4_isBad_54 (by decide) ?_
              exact gx_sub [1, 2, 3, 0] rfl (ih21 (i + 1) (by omega) (by omega) (fun j hj => by rcases Nat.lt_or_ge j i with q | q; exact hno j q; rw [show j = i by omega, ← qt_iff, ← hw i (by omega)]; simp_all))
            · refine gx_iconst (v := 1) hX dX4_isBad_49 rfl (by decide) ?_
              exact gx_zret hC rfl dX4_isBad_50 (⟨rfl, Or.inl ⟨rfl, by unfold qbad; simp only [decide_eq_true_eq]; exact qfst_lt.mpr ⟨i, by show i < n; omega, by rw [qt_iff] at h37; rw [hw i (by omega)] at h46; simp_all⟩⟩⟩)
    exact gx_sub [2, 3, 1, 0] rfl (L21 (n + 1) 0 (by omega) (by omega) (fun j hj => absurd hj (Nat.not_lt_zero j)))
end
section
/-! ===== errors ===== -/
theorem qdo_yes {g : qG} {x : Int32} (h : qsrc g x < 12) : qdo g x = (1 : Int32) <<< (nI (qsrc g x) &&& 31) := if_neg (by omega)
theorem qdo_no {g : qG} {x : Int32} (h : qsrc g x = 12) : qdo g x = 0 := if_pos h
theorem qst_no {g : qG} {c : Nat} {w : Nat → Int32} (h : w c ≠ 0 ∨ (¬ qbad g w (qL g c) = true ∧ ¬ qbad g w (qR g c) = true)) : qst g c w = w := if_neg (by
  rintro ⟨h1, h2⟩
  rcases h with h | ⟨h3, h4⟩
  · exact h h1
  · exact h2.elim h3 h4)
theorem qst_yes {g : qG} {c : Nat} {w : Nat → Int32} (h0 : w c = 0) (h : qbad g w (qL g c) = true ∨ qbad g w (qR g c) = true) : qst g c w = qup w c 5 := if_pos ⟨h0, h⟩
theorem qst_keep {g : qG} {c d : Nat} {w : Nat → Int32} (h : w d ≠ 0) : qst g c w d ≠ 0 := by
  unfold qst
  split
  · unfold qup
    split
    · decide
    · exact h
  · exact h
theorem qit_keep {f : Nat → (Nat → Int32) → (Nat → Int32)} {d : Nat} (hf : ∀ i w, w d ≠ 0 → f i w d ≠ 0) : ∀ (k : Nat) (w : Nat → Int32), w d ≠ 0 → qit f k w d ≠ 0
  | 0, _, h => h
  | k + 1, w, h => hf k _ (qit_keep hf k w h)
theorem qit_keep2 {f : Nat → (Nat → Int32) → (Nat → Int32)} {d : Nat} (hf : ∀ i w, w d ≠ 0 → f i w d ≠ 0) {j k : Nat} (hjk : j ≤ k) {w : Nat → Int32} (h : qit f k w d = 0) : qit f j w d = 0 := by
  induction hjk with
  | refl => exact h
  | step _ ih =>
    refine ih (Classical.byContradiction fun q => ?_)
    exact absurd h (hf _ _ q)
def qw0 (g : qG) : Nat → Int32 := fun c => if c < qn g then qown g c else 0
theorem qw_first {g : qG} {c : Nat} (hc : c < qn g) (h : qw g c = 0) {j : Nat} (hj : j ≤ qn g) : qit (qst g) j (qw0 g) c = 0 := by
  have h1 : qit (fun _ w => qit (qst g) (qn g) w) 1 (qw0 g) c = 0 := qit_keep2 (fun _ w hw => qit_keep (fun i w => qst_keep) _ w hw) (by omega) h
  exact qit_keep2 (fun i w => qst_keep) hj h1
theorem qw_own {g : qG} {c : Nat} (hc : c < qn g) (h : qw g c = 0) : qown g c = 0 := by
  have h1 := qw_first hc h (j := 0) (Nat.zero_le _)
  have h2 : qw0 g c = 0 := h1
  unfold qw0 at h2
  rwa [if_pos hc] at h2
theorem qw_fit {g : qG} {c : Nat} (hc : c < qn g) (h : qw g c = 0) : ∃ w : Nat → Int32, (∀ d, qw0 g d ≠ 0 → w d ≠ 0) ∧ ¬ qbad g w (qL g c) = true ∧ ¬ qbad g w (qR g c) = true := by
  refine ⟨qit (qst g) c (qw0 g), fun d hd => qit_keep (fun i w => qst_keep) _ _ hd, ?_⟩
  have h1 := qw_first hc h (j := c) (by omega)
  have h2 := qw_first hc h (j := c + 1) (by omega)
  have h3 : qst g c (qit (qst g) c (qw0 g)) c = 0 := h2
  generalize qit (qst g) c (qw0 g) = w at h1 h3 ⊢
  constructor
  · intro q
    rw [qst_yes h1 (Or.inl q)] at h3
    simp [qup] at h3
  · intro q
    rw [qst_yes h1 (Or.inr q)] at h3
    simp [qup] at h3
theorem qown_0 {g : qG} {c : Nat} (h : qown g c = 0) : qdf g (qV g c) = qb c ∧ ¬ qall g c c = true ∧ ¬ qundB g (qL g c) = true ∧ ¬ qundB g (qR g c) = true := by
  unfold qown at h
  split at h
  · rename_i h1
    split at h
    · cases h
    · rename_i h2
      split at h
      · cases h
      · rename_i h3
        exact ⟨h1, h2, fun q => h3 (Or.inl q), fun q => h3 (Or.inr q)⟩
  · cases h
theorem qsrc_ok {g : qG} (hn : qn g ≤ 12) {w : Nat → Int32} (hw : ∀ d, qw0 g d ≠ 0 → w d ≠ 0) {x : Int32} (hx : ¬ x < 100) (hb : ¬ qbad g w x = true) (hu : ¬ qundB g x = true) : qsrc g x < 12 := by
  have h1 : qdf g (x - 100) ≠ 0 := by
    intro q
    apply hu
    unfold qundB
    simp [hx, q, Int32.not_lt.mp hx]
  have h2 : ∃ d, d < 32 ∧ qt (qdf g (x - 100)) d = true := by
    apply Classical.byContradiction
    intro q
    apply h1
    apply qt_ext
    intro c hc
    rw [qt_0 c hc]
    cases e : qt (qdf g (x - 100)) c
    · rfl
    · exact absurd ⟨c, hc, e⟩ q
  obtain ⟨d, hd, h3⟩ := h2
  have h4 := (qdf_bit hn _ hd).mp h3
  have h5 : w d = 0 := by
    apply Classical.byContradiction
    intro q
    apply hb
    unfold qbad
    simp only [decide_eq_true_eq]
    refine qfst_lt.mpr ⟨d, h4.1, ?_⟩
    unfold qused
    rw [if_neg hx]
    simp [h3, q]
  have h6 : qw0 g d = 0 := by
    apply Classical.byContradiction
    intro q
    exact hw d q h5
  unfold qw0 at h6
  rw [if_pos h4.1] at h6
  have h7 := (qown_0 h6).1
  rw [h4.2] at h7
  unfold qsrc
  rw [if_neg hx, qonl_at (by omega) h7]
  omega
theorem qw_src {g : qG} (hn : qn g ≤ 12) {c : Nat} (hc : c < qn g) (h : qw g c = 0) : (¬ qL g c < 100 → qsrc g (qL g c) < 12) ∧ (¬ qR g c < 100 → qsrc g (qR g c) < 12) := by
  obtain ⟨w, h1, h2, h3⟩ := qw_fit hc h
  obtain ⟨-, -, h4, h5⟩ := qown_0 (qw_own hc h)
  exact ⟨fun hx => qsrc_ok hn h1 hx h2 h4, fun hx => qsrc_ok hn h1 hx h3 h5⟩
/-- a runnable cell isn't its own source -/
theorem qw_self {g : qG} (hn : qn g ≤ 12) {c : Nat} (hc : c < qn g) (h : qw g c = 0) : qsrc g (qL g c) ≠ c ∧ qsrc g (qR g c) ≠ c := by
  obtain ⟨-, h2, -, -⟩ := qown_0 (qw_own hc h)
  constructor
  · intro q
    exact h2 (qall_dir ((qdir_bit g c (by omega)).mpr (Or.inl q)))
  · intro q
    exact h2 (qall_dir ((qdir_bit g c (by omega)).mpr (Or.inr q)))
theorem gRow.eq {Y : gL} {mo : Nat} {σ τ : gS} {r : Nat → Int32} {n : Nat} {rs : List Nat} (h : gRow Y mo σ r n) (hM : gLM Y mo) (he : gEq Y rs σ τ) (h16 : 16 ∉ rs) : gRow Y mo τ r n := ⟨(he.at (gM1 hM) h16).trans h.1, h.2⟩
/-- what the derived arrays of the model hold -/
def gDer (Y : gL) (mo : Nat) (τ : gS) (g : qG) (r : Nat → Int32) : Prop :=
  (∀ c, c < qn g → τ.1 (gF Y mo 4) c = qdir g c) ∧ (∀ c d, c < qn g → d < qn g → qt (τ.1 (gF Y mo 6) c) d = qall g c d) ∧ (∀ c, c < qn g → τ.1 (gF Y mo 5) c = qw g c) ∧ τ.1 mo 8 = nI (qm g) ∧ (∀ k, k < qm g → τ.1 (gF Y mo 7) k = nI (qo g k)) ∧ ∀ c, c < qn g → τ.1 (gF Y mo 9) c = if qF g r c = true then 1 else 0
theorem qlim_0 (t c : Nat) : qlim t 0 0 c = t := if_neg (by omega)
theorem qfin {g : qG} {A : Nat → Int32} (hs : qSnd g A) (hm : qCmp g A (qlim (qn g) 0 0)) (c d : Nat) (hc : c < qn g) (hd : d < qn g) : qt (A c) d = qall g c d := by
  have e := hs c d hc hd
  have f := hm c d hc hd
  rw [qlim_0] at f
  have f' : qall g c d = true → qt (A c) d = true := f
  cases h1 : qt (A c) d <;> cases h2 : qall g c d <;> simp_all
theorem qini {g : qG} {A : Nat → Int32} (h : ∀ c, c < qn g → A c = qdir g c) : qSnd g A ∧ qCmp g A (qlim 0 0 0) := by
  constructor
  · intro c d hc hd q
    rw [h c hc] at q
    exact qall_dir q
  · intro c d hc hd q
    rw [qlim_0] at q
    rw [h c hc]
    exact q
theorem qlim_row {t c n c' : Nat} (ht : t < n) : qlim t (c + 1) 0 c' ≤ qlim t c n c' := by
  unfold qlim
  split <;> split <;> omega
theorem qlim_turn {t n c' : Nat} (hc : c' < n) : qlim (t + 1) 0 0 c' ≤ qlim t n 0 c' := by
  unfold qlim
  split <;> split <;> omega
theorem uI_at {σ : gS} {a k : Nat} {v : Int32} : (uI σ a k v).1 a k = v := by simp [uI]
theorem uI_off {σ : gS} {a k j : Nat} {v : Int32} (h : j ≠ k) : (uI σ a k v).1 a j = σ.1 a j := by simp [uI, h]
theorem uI_rng {σ : gS} {a i : Nat} {v : Int32} {P : Nat → Int32} (h : ∀ c, c < i → σ.1 a c = P c) (hv : v = P i) (c : Nat) (hc : c < i + 1) : (uI σ a i v).1 a c = P c := by
  by_cases e : c = i
  · subst e
    rw [uI_at, hv]
  · rw [uI_off e]
    exact h c (by omega)
theorem uI_qup {σ : gS} {a i n : Nat} {v : Int32} {w : Nat → Int32} (h : ∀ c, c < n → σ.1 a c = w c) (c : Nat) (hc : c < n) : (uI σ a i v).1 a c = qup w i v c := by
  unfold qup
  by_cases e : c = i
  · subst e
    rw [uI_at, if_pos rfl]
  · rw [uI_off e, if_neg e]
    exact h c hc
theorem gRow.put {Y : gL} {mo : Nat} {σ : gS} {r : Nat → Int32} {n a k i : Nat} {v : Int32} (h : gRow Y mo σ r n) (hi : gK Y a = i) (h16 : i ≠ 16) (hM : gLM Y mo) : gRow Y mo (uI σ a k v) r n := ⟨by rw [uI_ne (gK_ne (gM1 hM) hi h16.symm)]; exact h.1, h.2⟩
end
section
set_option maxRecDepth 100000 in
set_option maxHeartbeats 4000000 in
theorem c_X4_deriveDependencies (l : Launch) (Y : gL) (mo : Nat) (σ : gS) (r : Nat → Int32) (n : Nat) (hM : gLM Y mo) (hr : gRow Y mo σ r n) : gM l yX4_deriveDependencies cX4_deriveDependencies 4 none (gRm 4 87) Y [.ref mo] σ (gV fun τ => gEq Y [19, 21] σ τ ∧ (∀ c, c < n → τ.1 (gF Y mo 4) c = qdir (qg r n) c) ∧ (∀ c d, c < n → d < n → qt (τ.1 (gF Y mo 6) c) d = qall (qg r n) c d)) := by
  have hr1 := hr.1
  have hr2 := hr.2.1
  have hr3 := hr.2.2
  refine gM.of (by decide) rfl ?_
  intro p e s m args below meth c hC
  have hX := hC.1
  refine gx_iconst (v := 0) hX dX4_deriveDependencies_0 rfl (by decide) ?_
  refine gx_istore_n (lv' := [(1, .int 0), (0, .ref mo)]) hX dX4_deriveDependencies_1 rfl (by decide) rfl ?_
  have L2 : ∀ (k2 : Nat) (i : Nat) (τ : gS), n - i < k2 → (i ≤ n) → (gEq Y [19, 21] σ τ) → (∀ c, c < i → τ.1 (gF Y mo 4) c = qdir (qg r n) c) → (∀ c, c < i → τ.1 (gF Y mo 6) c = qdir (qg r n) c) → gG p l e (gRm 4 87) s m args below meth c Y (gV fun τ => gEq Y [19, 21] σ τ ∧ (∀ c, c < n → τ.1 (gF Y mo 4) c = qdir (qg r n) c) ∧ (∀ c d, c < n → d < n → qt (τ.1 (gF Y mo 6) c) d = qall (qg r n) c d)) τ 2 [(0, .ref mo), (1, .int (nI i))] [] := by
    intro k2
    induction k2 with
    | zero => intro i τ hk2; exact absurd hk2 (Nat.not_lt_zero _)
    | succ k2 ih2 =>
      intro i τ hk2 hi he hd ha
      have hrt := hr.eq hM he (by decide)
      refine gx_iload_n hX 1 dX4_deriveDependencies_2 rfl rfl ?_
      refine gx_aload_n hX 0 dX4_deriveDependencies_3 rfl rfl ?_
      refine gx_get hC 0 inlX4 wf_RX4_7 rfl (gM0 hM) rfl rfl rfl rfl dX4_deriveDependencies_4 rfl ?_
      refine gx_iconst (v := 0) hX dX4_deriveDependencies_7 rfl (by decide) ?_
      refine gx_iald (i := 0) hC (gM1 hM) rfl rfl (by omega) rfl dX4_deriveDependencies_8 rfl ?_
      refine gx_topi (b := (nI n)) (by rw [(hrt).1]; exact hr2) ?_
      refine gx_nat_ge (i := i) (j := n) (tgt := 87) hX dX4_deriveDependencies_9 (by decide) rfl rfl rfl (by omega) (by omega) (fun h9 => ?_) (fun h9 => ?_)
      · refine gx_iconst (v := 0) hX dX4_deriveDependencies_87 rfl (by decide) ?_
        refine gx_istore_n (lv' := [(1, .int 0), (0, .ref mo)]) hX dX4_deriveDependencies_88 rfl (by decide) rfl ?_
        have L89 : ∀ (k89 : Nat) (t : Nat) (τ : gS), n - t < k89 → (t ≤ n) → (gEq Y [19, 21] σ τ) → (∀ c, c < n → τ.1 (gF Y mo 4) c = qdir (qg r n) c) → (qSnd (qg r n) (τ.1 (gF Y mo 6))) → (qCmp (qg r n) (τ.1 (gF Y mo 6)) (qlim t 0 0)) → gG p l e (gRm 4 87) s m args below meth c Y (gV fun τ => gEq Y [19, 21] σ τ ∧ (∀ c, c < n → τ.1 (gF Y mo 4) c = qdir (qg r n) c) ∧ (∀ c d, c < n → d < n → qt (τ.1 (gF Y mo 6) c) d = qall (qg r n) c d)) τ 89 [(0, .ref mo), (1, .int (nI t))] [] := by
          intro k89
          induction k89 with
          | zero => intro t τ hk89; exact absurd hk89 (Nat.not_lt_zero _)
          | succ k89 ih89 =>
            intro t τ hk89 ht he hd hs hm
            have hrt := hr.eq hM he (by decide)
            refine gx_iload_n hX 1 dX4_deriveDependencies_89 rfl rfl ?_
            refine gx_aload_n hX 0 dX4_deriveDependencies_90 rfl rfl ?_
            refine gx_get hC 0 inlX4 wf_RX4_7 rfl (gM0 hM) rfl rfl rfl rfl dX4_deriveDependencies_91 rfl ?_
            refine gx_iconst (v := 0) hX dX4_deriveDependencies_94 rfl (by decide) ?_
            refine gx_iald (i := 0) hC (gM1 hM) rfl rfl (by omega) rfl dX4_deriveDependencies_95 rfl ?_
            refine gx_topi (b := (nI n)) (by rw [(hrt).1]; exact hr2) ?_
            refine gx_nat_ge (i := t) (j := n) (tgt := 174) hX dX4_deriveDependencies_96 (by decide) rfl rfl rfl (by omega) (by omega) (fun h96 => ?_) (fun h96 => ?_)
            · exact gx_vret hC dX4_deriveDependencies_174 (⟨he, hd, fun c d hc hd2 => qfin hs (by rw [show t = n by omega] at hm; exact hm) c d hc hd2⟩)
            · refine gx_iconst (v := 0) hX dX4_deriveDependencies_99 rfl (by decide) ?_
              refine gx_istore_n (lv' := [(2, .int 0), (0, .ref mo), (1, .int (nI t))]) hX dX4_deriveDependencies_100 rfl (by decide) rfl ?_
              have L101 : ∀ (k101 : Nat) (c1 : Nat) (υ : gS), n - c1 < k101 → (c1 ≤ n) → (gEq Y [19, 21] σ υ) → (∀ c, c < n → υ.1 (gF Y mo 4) c = qdir (qg r n) c) → (qSnd (qg r n) (υ.1 (gF Y mo 6))) → (qCmp (qg r n) (υ.1 (gF Y mo 6)) (qlim t c1 0)) → gG p l e (gRm 4 87) s m args below meth c Y (gV fun τ => gEq Y [19, 21] σ τ ∧ (∀ c, c < n → τ.1 (gF Y mo 4) c = qdir (qg r n) c) ∧ (∀ c d, c < n → d < n → qt (τ.1 (gF Y mo 6) c) d = qall (qg r n) c d)) υ 101 [(0, .ref mo), (1, .int (nI t)), (2, .int (nI c1))] [] := by
                intro k101
                induction k101 with
                | zero => intro c1 υ hk101; exact absurd hk101 (Nat.not_lt_zero _)
                | succ k101 ih101 =>
                  intro c1 υ hk101 hc heu hdu hsu hmu
                  have hru := hr.eq hM heu (by decide)
                  refine gx_iload_n hX 2 dX4_deriveDependencies_101 rfl rfl ?_
                  refine gx_aload_n hX 0 dX4_deriveDependencies_102 rfl rfl ?_
                  refine gx_get hC 0 inlX4 wf_RX4_7 rfl (gM0 hM) rfl rfl rfl rfl dX4_deriveDependencies_103 rfl ?_
                  refine gx_iconst (v := 0) hX dX4_deriveDependencies_106 rfl (by decide) ?_
                  refine gx_iald (i := 0) hC (gM1 hM) rfl rfl (by omega) rfl dX4_deriveDependencies_107 rfl ?_
                  refine gx_topi (b := (nI n)) (by rw [(hru).1]; exact hr2) ?_
                  refine gx_nat_ge (i := c1) (j := n) (tgt := 168) hX dX4_deriveDependencies_108 (by decide) rfl rfl rfl (by omega) (by omega) (fun h108 => ?_) (fun h108 => ?_)
                  · refine gx_iinc (w := (nI (t + 1))) (lv' := [(1, .int (nI (t + 1))), (0, .ref mo), (2, .int (nI c1))]) hX 1 dX4_deriveDependencies_168 rfl rfl (nI_add _ _) (by decide) rfl ?_
                    refine gx_goto (pc' := 89) hX dX4_deriveDependencies_171 (by decide) ?_
                    exact gx_sub [1, 0] rfl (ih89 (t + 1) _ (by omega) (by omega) heu hdu hsu (hmu.le (fun c hc => by rw [show c1 = n by omega]; exact qlim_turn hc)))
                  · refine gx_iconst (v := 0) hX dX4_deriveDependencies_111 rfl (by decide) ?_
                    refine gx_istore_n (lv' := [(3, .int 0), (0, .ref mo), (1, .int (nI t)), (2, .int (nI c1))]) hX dX4_deriveDependencies_112 rfl (by decide) rfl ?_
                    have L113 : ∀ (k113 : Nat) (d : Nat) (ω : gS), n - d < k113 → (d ≤ n) → (gEq Y [19, 21] σ ω) → (∀ c, c < n → ω.1 (gF Y mo 4) c = qdir (qg r n) c) → (qSnd (qg r n) (ω.1 (gF Y mo 6))) → (qCmp (qg r n) (ω.1 (gF Y mo 6)) (qlim t c1 d)) → gG p l e (gRm 4 87) s m args below meth c Y (gV fun τ => gEq Y [19, 21] σ τ ∧ (∀ c, c < n → τ.1 (gF Y mo 4) c = qdir (qg r n) c) ∧ (∀ c d, c < n → d < n → qt (τ.1 (gF Y mo 6) c) d = qall (qg r n) c d)) ω 113 [(0, .ref mo), (1, .int (nI t)), (2, .int (nI c1)), (3, .int (nI d))] [] := by
                      intro k113
                      induction k113 with
                      | zero => intro d ω hk113; exact absurd hk113 (Nat.not_lt_zero _)
                      | succ k113 ih113 =>
                        intro d ω hk113 hd3 heo hdo hso hmo
                        have hro := hr.eq hM heo (by decide)
                        refine gx_iload_n hX 3 dX4_deriveDependencies_113 rfl rfl ?_
                        refine gx_aload_n hX 0 dX4_deriveDependencies_114 rfl rfl ?_
                        refine gx_get hC 0 inlX4 wf_RX4_7 rfl (gM0 hM) rfl rfl rfl rfl dX4_deriveDependencies_115 rfl ?_
                        refine gx_iconst (v := 0) hX dX4_deriveDependencies_118 rfl (by decide) ?_
                        refine gx_iald (i := 0) hC (gM1 hM) rfl rfl (by omega) rfl dX4_deriveDependencies_119 rfl ?_
                        refine gx_topi (b := (nI n)) (by rw [(hro).1]; exact hr2) ?_
                        refine gx_nat_ge (i := d) (j := n) (tgt := 162) hX dX4_deriveDependencies_120 (by decide) rfl rfl rfl (by omega) (by omega) (fun h120 => ?_) (fun h120 => ?_)
                        · refine gx_iinc (w := (nI (c1 + 1))) (lv' := [(2, .int (nI (c1 + 1))), (0, .ref mo), (1, .int (nI t)), (3, .int (nI d))]) hX 2 dX4_deriveDependencies_162 rfl rfl (nI_add _ _) (by decide) rfl ?_
                          refine gx_goto (pc' := 101) hX dX4_deriveDependencies_165 (by decide) ?_
                          exact gx_sub [1, 2, 0] rfl (ih101 (c1 + 1) _ (by omega) (by omega) heo hdo hso (hmo.le (fun c hc => by rw [show d = n by omega]; exact qlim_row h96)))
                        · refine gx_aload_n hX 0 dX4_deriveDependencies_123 rfl rfl ?_
                          refine gx_get hC 6 inlX4 wf_RX4_25 rfl (gM0 hM) rfl rfl rfl rfl dX4_deriveDependencies_124 rfl ?_
                          refine gx_iload_n hX 2 dX4_deriveDependencies_127 rfl rfl ?_
                          refine gx_dup2 hX dX4_deriveDependencies_128 rfl rfl rfl ?_
                          refine gx_iald (i := c1) hC (gM6 hM) rfl rfl (by omega) rfl dX4_deriveDependencies_129 rfl ?_
                          refine gx_aload_n hX 0 dX4_deriveDependencies_130 rfl rfl ?_
                          refine gx_get hC 6 inlX4 wf_RX4_25 rfl (gM0 hM) rfl rfl rfl rfl dX4_deriveDependencies_131 rfl ?_
                          refine gx_iload_n hX 2 dX4_deriveDependencies_134 rfl rfl ?_
                          refine gx_iald (i := c1) hC (gM6 hM) rfl rfl (by omega) rfl dX4_deriveDependencies_135 rfl ?_
                          refine gx_iload_n hX 3 dX4_deriveDependencies_136 rfl rfl ?_
                          refine gx_ishr hX dX4_deriveDependencies_137 rfl ?_
                          refine gx_iconst (v := 1) hX dX4_deriveDependencies_138 rfl (by decide) ?_
                          refine gx_iand hX dX4_deriveDependencies_139 rfl ?_
                          refine gx_iconst (v := 1) hX dX4_deriveDependencies_140 rfl (by decide) ?_
                          refine gx_icmp_ne (tgt := 153) hX dX4_deriveDependencies_141 (by decide) rfl (fun h141 => ?_) (fun h141 => ?_)
                          · refine gx_iconst (v := 0) hX dX4_deriveDependencies_153 rfl (by decide) ?_
                            refine gx_ior hX dX4_deriveDependencies_154 rfl ?_
                            refine gx_topi (b := (ω.1 (gF Y mo 6) c1 ||| (if qt (ω.1 (gF Y mo 6) c1) d = true then ω.1 (gF Y mo 6) d else 0))) (by first | rw [if_pos (qt_iff.mp h141)] | rw [if_neg (fun q => h141 (qt_iff.mpr q))]) ?_
                            refine gx_iast (i := c1) hC (gM6 hM) rfl rfl rfl rfl (by omega) rfl dX4_deriveDependencies_155 rfl ?_
                            refine gx_iinc (w := (nI (d + 1))) (lv' := [(3, .int (nI (d + 1))), (0, .ref mo), (1, .int (nI t)), (2, .int (nI c1))]) hX 3 dX4_deriveDependencies_156 rfl rfl (nI_add _ _) (by decide) rfl ?_
                            refine gx_goto (pc' := 113) hX dX4_deriveDependencies_159 (by decide) ?_
                            have hq := qstep (g := qg r n) (B := ((uI ω (gF Y mo 6) c1 (ω.1 (gF Y mo 6) c1 ||| (if qt (ω.1 (gF Y mo 6) c1) d = true then ω.1 (gF Y mo 6) d else 0)))).1 (gF Y mo 6)) (t := t) (c := c1) (d := d) hr3 h96 h108 h120 (fun c' hc' hne => by simp [uI, hne]) (by simp [uI]) hso hmo
                            exact gx_sub [1, 2, 3, 0] rfl (ih113 (d + 1) _ (by omega) (by omega) (heo.put (gM6 hM) (by decide)) (fun c hc => by rw [uI_ne (gK_ne (gM4 hM) (gM6 hM) (by decide))]; exact hdo c hc) hq.1 hq.2)
                          · refine gx_aload_n hX 0 dX4_deriveDependencies_144 rfl rfl ?_
                            refine gx_get hC 6 inlX4 wf_RX4_25 rfl (gM0 hM) rfl rfl rfl rfl dX4_deriveDependencies_145 rfl ?_
                            refine gx_iload_n hX 3 dX4_deriveDependencies_148 rfl rfl ?_
                            refine gx_iald (i := d) hC (gM6 hM) rfl rfl (by omega) rfl dX4_deriveDependencies_149 rfl ?_
                            refine gx_goto (pc' := 154) hX dX4_deriveDependencies_150 (by decide) ?_
                            refine gx_ior hX dX4_deriveDependencies_154 rfl ?_
                            refine gx_topi (b := (ω.1 (gF Y mo 6) c1 ||| (if qt (ω.1 (gF Y mo 6) c1) d = true then ω.1 (gF Y mo 6) d else 0))) (by first | rw [if_pos (qt_iff.mp h141)] | rw [if_neg (fun q => h141 (qt_iff.mpr q))]) ?_
                            refine gx_iast (i := c1) hC (gM6 hM) rfl rfl rfl rfl (by omega) rfl dX4_deriveDependencies_155 rfl ?_
                            refine gx_iinc (w := (nI (d + 1))) (lv' := [(3, .int (nI (d + 1))), (0, .ref mo), (1, .int (nI t)), (2, .int (nI c1))]) hX 3 dX4_deriveDependencies_156 rfl rfl (nI_add _ _) (by decide) rfl ?_
                            refine gx_goto (pc' := 113) hX dX4_deriveDependencies_159 (by decide) ?_
                            have hq := qstep (g := qg r n) (B := ((uI ω (gF Y mo 6) c1 (ω.1 (gF Y mo 6) c1 ||| (if qt (ω.1 (gF Y mo 6) c1) d = true then ω.1 (gF Y mo 6) d else 0)))).1 (gF Y mo 6)) (t := t) (c := c1) (d := d) hr3 h96 h108 h120 (fun c' hc' hne => by simp [uI, hne]) (by simp [uI]) hso hmo
                            exact gx_sub [1, 2, 3, 0] rfl (ih113 (d + 1) _ (by omega) (by omega) (heo.put (gM6 hM) (by decide)) (fun c hc => by rw [uI_ne (gK_ne (gM4 hM) (gM6 hM) (by decide))]; exact hdo c hc) hq.1 hq.2)
                    exact gx_sub [1, 2, 3, 0] rfl (L113 (n + 1) 0 _ (by omega) (by omega) heu hdu hsu hmu)
              exact gx_sub [1, 2, 0] rfl (L101 (n + 1) 0 _ (by omega) (by omega) he hd hs hm)
        have hq0 := qini (g := qg r n) (A := τ.1 (gF Y mo 6)) (fun c hc => ha c (by have e : qn (qg r n) = n := rfl; omega))
        exact gx_sub [1, 0] rfl (L89 (n + 1) 0 τ (by omega) (by omega) he (fun c hc => hd c (by omega)) hq0.1 hq0.2)
      · refine gx_aload_n hX 0 dX4_deriveDependencies_12 rfl rfl ?_
        refine gx_aload_n hX 0 dX4_deriveDependencies_13 rfl rfl ?_
        refine gx_iload_n hX 1 dX4_deriveDependencies_14 rfl rfl ?_
        refine gx_iconst (v := 2) hX dX4_deriveDependencies_15 rfl (by decide) ?_
        refine gx_callV (As := [.int (nI i), .int 2]) (st := [.ref mo]) hC (c_X4_get l Y mo τ r i 2 hM hrt.1 (by omega)) kX4_get wm_RX4_50 rfl (gM0 hM) rfl rfl rfl rfl rfl dX4_deriveDependencies_16 rfl (gx_ki fun r16 τ16 hq16 => ?_)
        obtain ⟨rfl, rfl⟩ := hq16
        refine gx_callV (As := [.int (r (17 + 10 * i + 2))]) (st := []) hC (c_X4_source l Y mo τ r n hM hrt (r (17 + 10 * i + 2))) kX4_source wm_RX4_60 rfl (gM0 hM) rfl rfl rfl rfl rfl dX4_deriveDependencies_19 rfl (gx_ki fun r19 τ19 hq19 => ?_)
        obtain ⟨rfl, ⟨rfl, hb19⟩ | ⟨rfl, hb19⟩⟩ := hq19
        · refine gx_istore_n (lv' := [(2, .int (nI (qsrc (qg r n) (r (17 + 10 * i + 2))))), (0, .ref mo), (1, .int (nI i))]) hX dX4_deriveDependencies_22 rfl (by decide) rfl ?_
          refine gx_aload_n hX 1 dX4_deriveDependencies_23 rfl rfl ?_
          refine gx_aload_n hX 1 dX4_deriveDependencies_24 rfl rfl ?_
          refine gx_iload_n hX 2 dX4_deriveDependencies_25 rfl rfl ?_
          refine gx_iconst (v := 3) hX dX4_deriveDependencies_26 rfl (by decide) ?_
          refine gx_callV (As := [.int (nI i), .int 3]) (st := [.ref mo]) hC (c_X4_get l Y mo τ r i 3 hM hrt.1 (by omega)) kX4_get wm_RX4_50 rfl (gM0 hM) rfl rfl rfl rfl rfl dX4_deriveDependencies_27 rfl (gx_ki fun r27 τ27 hq27 => ?_)
          obtain ⟨rfl, rfl⟩ := hq27
          refine gx_callV (As := [.int (r (17 + 10 * i + 3))]) (st := []) hC (c_X4_source l Y mo τ r n hM hrt (r (17 + 10 * i + 3))) kX4_source wm_RX4_60 rfl (gM0 hM) rfl rfl rfl rfl rfl dX4_deriveDependencies_30 rfl (gx_ki fun r30 τ30 hq30 => ?_)
          obtain ⟨rfl, ⟨rfl, hb30⟩ | ⟨rfl, hb30⟩⟩ := hq30
          · refine gx_istore_n (lv' := [(3, .int (nI (qsrc (qg r n) (r (17 + 10 * i + 3))))), (2, .int (nI (qsrc (qg r n) (r (17 + 10 * i + 2))))), (0, .ref mo), (1, .int (nI i))]) hX dX4_deriveDependencies_33 rfl (by decide) rfl ?_
            refine gx_aload_n hX 2 dX4_deriveDependencies_34 rfl rfl ?_
            refine gx_get hC 4 inlX4 wf_RX4_19 rfl (gM0 hM) rfl rfl rfl rfl dX4_deriveDependencies_35 rfl ?_
            refine gx_iload_n hX 3 dX4_deriveDependencies_38 rfl rfl ?_
            refine gx_iload_n hX 1 dX4_deriveDependencies_39 rfl rfl ?_
            refine gx_sipush (v := (-10001)) hX dX4_deriveDependencies_40 rfl (by decide) ?_
            refine gx_icmp_ne_t (tgt := 50) hX dX4_deriveDependencies_43 (by decide) (nI_neg (by omega) (by decide)) ?_
            refine gx_iconst (v := 1) hX dX4_deriveDependencies_50 rfl (by decide) ?_
            refine gx_iload_n hX 1 dX4_deriveDependencies_51 rfl rfl ?_
            refine gx_ishl hX dX4_deriveDependencies_52 rfl ?_
            refine gx_iload_n hX 0 dX4_deriveDependencies_53 rfl rfl ?_
            refine gx_sipush (v := (-10001)) hX dX4_deriveDependencies_54 rfl (by decide) ?_
            refine gx_icmp_ne_t (tgt := 64) hX dX4_deriveDependencies_57 (by decide) (nI_neg (by omega) (by decide)) ?_
            refine gx_iconst (v := 1) hX dX4_deriveDependencies_64 rfl (by decide) ?_
            refine gx_iload_n hX 0 dX4_deriveDependencies_65 rfl rfl ?_
            refine gx_ishl hX dX4_deriveDependencies_66 rfl ?_
            refine gx_ior hX dX4_deriveDependencies_67 rfl ?_
            refine gx_topi (b := (qdir (qg r n) i)) (by show _ = qdo (qg r n) (r (17 + 10 * i + 2)) ||| qdo (qg r n) (r (17 + 10 * i + 3)); first | rw [qdo_yes hb19, qdo_yes hb30] | rw [qdo_yes hb19, qdo_no hb30] | rw [qdo_no hb19, qdo_yes hb30] | rw [qdo_no hb19, qdo_no hb30]) ?_
            refine gx_iast (i := i) hC (gM4 hM) rfl rfl rfl rfl (by omega) rfl dX4_deriveDependencies_68 rfl ?_
            refine gx_aload_n hX 2 dX4_deriveDependencies_69 rfl rfl ?_
            refine gx_get hC 6 inlX4 wf_RX4_25 rfl (gM0 hM) rfl rfl rfl rfl dX4_deriveDependencies_70 rfl ?_
            refine gx_iload_n hX 3 dX4_deriveDependencies_73 rfl rfl ?_
            refine gx_aload_n hX 2 dX4_deriveDependencies_74 rfl rfl ?_
            refine gx_get hC 4 inlX4 wf_RX4_19 rfl (gM0 hM) rfl rfl rfl rfl dX4_deriveDependencies_75 rfl ?_
            refine gx_iload_n hX 3 dX4_deriveDependencies_78 rfl rfl ?_
            refine gx_iald (i := i) hC (gM4 hM) rfl rfl (by omega) rfl dX4_deriveDependencies_79 rfl ?_
            refine gx_topi (b := (qdir (qg r n) i)) (by simp [uI]) ?_
            refine gx_iast (i := i) hC (gM6 hM) rfl rfl rfl rfl (by omega) rfl dX4_deriveDependencies_80 rfl ?_
            refine gx_iinc (w := (nI (i + 1))) (lv' := [(1, .int (nI (i + 1))), (3, .int (nI (qsrc (qg r n) (r (17 + 10 * i + 3))))), (2, .int (nI (qsrc (qg r n) (r (17 + 10 * i + 2))))), (0, .ref mo)]) hX 3 dX4_deriveDependencies_81 rfl rfl (nI_add _ _) (by decide) rfl ?_
            refine gx_goto (pc' := 2) hX dX4_deriveDependencies_84 (by decide) ?_
            exact gx_sub [3, 0] rfl (ih2 (i + 1) _ (by omega) (by omega) ((he.put (gM4 hM) (by decide)).put (gM6 hM) (by decide)) (fun c hc => by rw [uI_ne (gK_ne (gM4 hM) (gM6 hM) (by decide))]; exact uI_rng hd rfl c hc) (fun c hc => uI_rng (fun c hc => by rw [uI_ne (gK_ne (gM4 hM) (gM6 hM) (by decide)).symm]; exact ha c hc) rfl c hc))
          · refine gx_istore_n (lv' := [(3, .int (-10001)), (2, .int (nI (qsrc (qg r n) (r (17 + 10 * i + 2))))), (0, .ref mo), (1, .int (nI i))]) hX dX4_deriveDependencies_33 rfl (by decide) rfl ?_
            refine gx_aload_n hX 2 dX4_deriveDependencies_34 rfl rfl ?_
            refine gx_get hC 4 inlX4 wf_RX4_19 rfl (gM0 hM) rfl rfl rfl rfl dX4_deriveDependencies_35 rfl ?_
            refine gx_iload_n hX 3 dX4_deriveDependencies_38 rfl rfl ?_
            refine gx_iload_n hX 1 dX4_deriveDependencies_39 rfl rfl ?_
            refine gx_sipush (v := (-10001)) hX dX4_deriveDependencies_40 rfl (by decide) ?_
            refine gx_icmp_ne_t (tgt := 50) hX dX4_deriveDependencies_43 (by decide) (nI_neg (by omega) (by decide)) ?_
            refine gx_iconst (v := 1) hX dX4_deriveDependencies_50 rfl (by decide) ?_
            refine gx_iload_n hX 1 dX4_deriveDependencies_51 rfl rfl ?_
            refine gx_ishl hX dX4_deriveDependencies_52 rfl ?_
            refine gx_iload_n hX 0 dX4_deriveDependencies_53 rfl rfl ?_
            refine gx_sipush (v := (-10001)) hX dX4_deriveDependencies_54 rfl (by decide) ?_
            refine gx_icmp_ne_f (tgt := 64) hX dX4_deriveDependencies_57 (by decide) rfl (by decide) ?_
            refine gx_iconst (v := 0) hX dX4_deriveDependencies_60 rfl (by decide) ?_
            refine gx_goto (pc' := 67) hX dX4_deriveDependencies_61 (by decide) ?_
            refine gx_ior hX dX4_deriveDependencies_67 rfl ?_
            refine gx_topi (b := (qdir (qg r n) i)) (by show _ = qdo (qg r n) (r (17 + 10 * i + 2)) ||| qdo (qg r n) (r (17 + 10 * i + 3)); first | rw [qdo_yes hb19, qdo_yes hb30] | rw [qdo_yes hb19, qdo_no hb30] | rw [qdo_no hb19, qdo_yes hb30] | rw [qdo_no hb19, qdo_no hb30]) ?_
            refine gx_iast (i := i) hC (gM4 hM) rfl rfl rfl rfl (by omega) rfl dX4_deriveDependencies_68 rfl ?_
            refine gx_aload_n hX 2 dX4_deriveDependencies_69 rfl rfl ?_
            refine gx_get hC 6 inlX4 wf_RX4_25 rfl (gM0 hM) rfl rfl rfl rfl dX4_deriveDependencies_70 rfl ?_
            refine gx_iload_n hX 3 dX4_deriveDependencies_73 rfl rfl ?_
            refine gx_aload_n hX 2 dX4_deriveDependencies_74 rfl rfl ?_
            refine gx_get hC 4 inlX4 wf_RX4_19 rfl (gM0 hM) rfl rfl rfl rfl dX4_deriveDependencies_75 rfl ?_
            refine gx_iload_n hX 3 dX4_deriveDependencies_78 rfl rfl ?_
            refine gx_iald (i := i) hC (gM4 hM) rfl rfl (by omega) rfl dX4_deriveDependencies_79 rfl ?_
            refine gx_topi (b := (qdir (qg r n) i)) (by simp [uI]) ?_
            refine gx_iast (i := i) hC (gM6 hM) rfl rfl rfl rfl (by omega) rfl dX4_deriveDependencies_80 rfl ?_
            refine gx_iinc (w := (nI (i + 1))) (lv' := [(1, .int (nI (i + 1))), (3, .int (-10001)), (2, .int (nI (qsrc (qg r n) (r (17 + 10 * i + 2))))), (0, .ref mo)]) hX 3 dX4_deriveDependencies_81 rfl rfl (nI_add _ _) (by decide) rfl ?_
            refine gx_goto (pc' := 2) hX dX4_deriveDependencies_84 (by decide) ?_
            exact gx_sub [3, 0] rfl (ih2 (i + 1) _ (by omega) (by omega) ((he.put (gM4 hM) (by decide)).put (gM6 hM) (by decide)) (fun c hc => by rw [uI_ne (gK_ne (gM4 hM) (gM6 hM) (by decide))]; exact uI_rng hd rfl c hc) (fun c hc => uI_rng (fun c hc => by rw [uI_ne (gK_ne (gM4 hM) (gM6 hM) (by decide)).symm]; exact ha c hc) rfl c hc))
        · refine gx_istore_n (lv' := [(2, .int (-10001)), (0, .ref mo), (1, .int (nI i))]) hX dX4_deriveDependencies_22 rfl (by decide) rfl ?_
          refine gx_aload_n hX 1 dX4_deriveDependencies_23 rfl rfl ?_
          refine gx_aload_n hX 1 dX4_deriveDependencies_24 rfl rfl ?_
          refine gx_iload_n hX 2 dX4_deriveDependencies_25 rfl rfl ?_
          refine gx_iconst (v := 3) hX dX4_deriveDependencies_26 rfl (by decide) ?_
          refine gx_callV (As := [.int (nI i), .int 3]) (st := [.ref mo]) hC (c_X4_get l Y mo τ r i 3 hM hrt.1 (by omega)) kX4_get wm_RX4_50 rfl (gM0 hM) rfl rfl rfl rfl rfl dX4_deriveDependencies_27 rfl (gx_ki fun r27 τ27 hq27 => ?_)
          obtain ⟨rfl, rfl⟩ := hq27
          refine gx_callV (As := [.int (r (17 + 10 * i + 3))]) (st := []) hC (c_X4_source l Y mo τ r n hM hrt (r (17 + 10 * i + 3))) kX4_source wm_RX4_60 rfl (gM0 hM) rfl rfl rfl rfl rfl dX4_deriveDependencies_30 rfl (gx_ki fun r30 τ30 hq30 => ?_)
          obtain ⟨rfl, ⟨rfl, hb30⟩ | ⟨rfl, hb30⟩⟩ := hq30
          · refine gx_istore_n (lv' := [(3, .int (nI (qsrc (qg r n) (r (17 + 10 * i + 3))))), (2, .int (-10001)), (0, .ref mo), (1, .int (nI i))]) hX dX4_deriveDependencies_33 rfl (by decide) rfl ?_
            refine gx_aload_n hX 2 dX4_deriveDependencies_34 rfl rfl ?_
            refine gx_get hC 4 inlX4 wf_RX4_19 rfl (gM0 hM) rfl rfl rfl rfl dX4_deriveDependencies_35 rfl ?_
            refine gx_iload_n hX 3 dX4_deriveDependencies_38 rfl rfl ?_
            refine gx_iload_n hX 1 dX4_deriveDependencies_39 rfl rfl ?_
            refine gx_sipush (v := (-10001)) hX dX4_deriveDependencies_40 rfl (by decide) ?_
            refine gx_icmp_ne_f (tgt := 50) hX dX4_deriveDependencies_43 (by decide) rfl (by decide) ?_
            refine gx_iconst (v := 0) hX dX4_deriveDependencies_46 rfl (by decide) ?_
            refine gx_goto (pc' := 53) hX dX4_deriveDependencies_47 (by decide) ?_
            refine gx_iload_n hX 0 dX4_deriveDependencies_53 rfl rfl ?_
            refine gx_sipush (v := (-10001)) hX dX4_deriveDependencies_54 rfl (by decide) ?_
            refine gx_icmp_ne_t (tgt := 64) hX dX4_deriveDependencies_57 (by decide) (nI_neg (by omega) (by decide)) ?_
            refine gx_iconst (v := 1) hX dX4_deriveDependencies_64 rfl (by decide) ?_
            refine gx_iload_n hX 0 dX4_deriveDependencies_65 rfl rfl ?_
            refine gx_ishl hX dX4_deriveDependencies_66 rfl ?_
            refine gx_ior hX dX4_deriveDependencies_67 rfl ?_
            refine gx_topi (b := (qdir (qg r n) i)) (by show _ = qdo (qg r n) (r (17 + 10 * i + 2)) ||| qdo (qg r n) (r (17 + 10 * i + 3)); first | rw [qdo_yes hb19, qdo_yes hb30] | rw [qdo_yes hb19, qdo_no hb30] | rw [qdo_no hb19, qdo_yes hb30] | rw [qdo_no hb19, qdo_no hb30]) ?_
            refine gx_iast (i := i) hC (gM4 hM) rfl rfl rfl rfl (by omega) rfl dX4_deriveDependencies_68 rfl ?_
            refine gx_aload_n hX 2 dX4_deriveDependencies_69 rfl rfl ?_
            refine gx_get hC 6 inlX4 wf_RX4_25 rfl (gM0 hM) rfl rfl rfl rfl dX4_deriveDependencies_70 rfl ?_
            refine gx_iload_n hX 3 dX4_deriveDependencies_73 rfl rfl ?_
            refine gx_aload_n hX 2 dX4_deriveDependencies_74 rfl rfl ?_
            refine gx_get hC 4 inlX4 wf_RX4_19 rfl (gM0 hM) rfl rfl rfl rfl dX4_deriveDependencies_75 rfl ?_
            refine gx_iload_n hX 3 dX4_deriveDependencies_78 rfl rfl ?_
            refine gx_iald (i := i) hC (gM4 hM) rfl rfl (by omega) rfl dX4_deriveDependencies_79 rfl ?_
            refine gx_topi (b := (qdir (qg r n) i)) (by simp [uI]) ?_
            refine gx_iast (i := i) hC (gM6 hM) rfl rfl rfl rfl (by omega) rfl dX4_deriveDependencies_80 rfl ?_
            refine gx_iinc (w := (nI (i + 1))) (lv' := [(1, .int (nI (i + 1))), (3, .int (nI (qsrc (qg r n) (r (17 + 10 * i + 3))))), (2, .int (-10001)), (0, .ref mo)]) hX 3 dX4_deriveDependencies_81 rfl rfl (nI_add _ _) (by decide) rfl ?_
            refine gx_goto (pc' := 2) hX dX4_deriveDependencies_84 (by decide) ?_
            exact gx_sub [3, 0] rfl (ih2 (i + 1) _ (by omega) (by omega) ((he.put (gM4 hM) (by decide)).put (gM6 hM) (by decide)) (fun c hc => by rw [uI_ne (gK_ne (gM4 hM) (gM6 hM) (by decide))]; exact uI_rng hd rfl c hc) (fun c hc => uI_rng (fun c hc => by rw [uI_ne (gK_ne (gM4 hM) (gM6 hM) (by decide)).symm]; exact ha c hc) rfl c hc))
          · refine gx_istore_n (lv' := [(3, .int (-10001)), (2, .int (-10001)), (0, .ref mo), (1, .int (nI i))]) hX dX4_deriveDependencies_33 rfl (by decide) rfl ?_
            refine gx_aload_n hX 2 dX4_deriveDependencies_34 rfl rfl ?_
            refine gx_get hC 4 inlX4 wf_RX4_19 rfl (gM0 hM) rfl rfl rfl rfl dX4_deriveDependencies_35 rfl ?_
            refine gx_iload_n hX 3 dX4_deriveDependencies_38 rfl rfl ?_
            refine gx_iload_n hX 1 dX4_deriveDependencies_39 rfl rfl ?_
            refine gx_sipush (v := (-10001)) hX dX4_deriveDependencies_40 rfl (by decide) ?_
            refine gx_icmp_ne_f (tgt := 50) hX dX4_deriveDependencies_43 (by decide) rfl (by decide) ?_
            refine gx_iconst (v := 0) hX dX4_deriveDependencies_46 rfl (by decide) ?_
            refine gx_goto (pc' := 53) hX dX4_deriveDependencies_47 (by decide) ?_
            refine gx_iload_n hX 0 dX4_deriveDependencies_53 rfl rfl ?_
            refine gx_sipush (v := (-10001)) hX dX4_deriveDependencies_54 rfl (by decide) ?_
            refine gx_icmp_ne_f (tgt := 64) hX dX4_deriveDependencies_57 (by decide) rfl (by decide) ?_
            refine gx_iconst (v := 0) hX dX4_deriveDependencies_60 rfl (by decide) ?_
            refine gx_goto (pc' := 67) hX dX4_deriveDependencies_61 (by decide) ?_
            refine gx_ior hX dX4_deriveDependencies_67 rfl ?_
            refine gx_topi (b := (qdir (qg r n) i)) (by show _ = qdo (qg r n) (r (17 + 10 * i + 2)) ||| qdo (qg r n) (r (17 + 10 * i + 3)); first | rw [qdo_yes hb19, qdo_yes hb30] | rw [qdo_yes hb19, qdo_no hb30] | rw [qdo_no hb19, qdo_yes hb30] | rw [qdo_no hb19, qdo_no hb30]) ?_
            refine gx_iast (i := i) hC (gM4 hM) rfl rfl rfl rfl (by omega) rfl dX4_deriveDependencies_68 rfl ?_
            refine gx_aload_n hX 2 dX4_deriveDependencies_69 rfl rfl ?_
            refine gx_get hC 6 inlX4 wf_RX4_25 rfl (gM0 hM) rfl rfl rfl rfl dX4_deriveDependencies_70 rfl ?_
            refine gx_iload_n hX 3 dX4_deriveDependencies_73 rfl rfl ?_
            refine gx_aload_n hX 2 dX4_deriveDependencies_74 rfl rfl ?_
            refine gx_get hC 4 inlX4 wf_RX4_19 rfl (gM0 hM) rfl rfl rfl rfl dX4_deriveDependencies_75 rfl ?_
            refine gx_iload_n hX 3 dX4_deriveDependencies_78 rfl rfl ?_
            refine gx_iald (i := i) hC (gM4 hM) rfl rfl (by omega) rfl dX4_deriveDependencies_79 rfl ?_
            refine gx_topi (b := (qdir (qg r n) i)) (by simp [uI]) ?_
            refine gx_iast (i := i) hC (gM6 hM) rfl rfl rfl rfl (by omega) rfl dX4_deriveDependencies_80 rfl ?_
            refine gx_iinc (w := (nI (i + 1))) (lv' := [(1, .int (nI (i + 1))), (3, .int (-10001)), (2, .int (-10001)), (0, .ref mo)]) hX 3 dX4_deriveDependencies_81 rfl rfl (nI_add _ _) (by decide) rfl ?_
            refine gx_goto (pc' := 2) hX dX4_deriveDependencies_84 (by decide) ?_
            exact gx_sub [3, 0] rfl (ih2 (i + 1) _ (by omega) (by omega) ((he.put (gM4 hM) (by decide)).put (gM6 hM) (by decide)) (fun c hc => by rw [uI_ne (gK_ne (gM4 hM) (gM6 hM) (by decide))]; exact uI_rng hd rfl c hc) (fun c hc => uI_rng (fun c hc => by rw [uI_ne (gK_ne (gM4 hM) (gM6 hM) (by decide)).symm]; exact ha c hc) rfl c hc))
  exact gx_sub [1, 0] rfl (L2 (n + 1) 0 σ (by omega) (by omega) gEq.rf (fun c hc => absurd hc (Nat.not_lt_zero c)) (fun c hc => absurd hc (Nat.not_lt_zero c)))

set_option maxRecDepth 100000 in
set_option maxHeartbeats 4000000 in
theorem c_X4_deriveErrors (l : Launch) (Y : gL) (mo : Nat) (σ : gS) (r : Nat → Int32) (n : Nat) (hM : gLM Y mo) (hr : gRow Y mo σ r n) (hal : ∀ c d, c < n → d < n → qt (σ.1 (gF Y mo 6) c) d = qall (qg r n) c d) : gM l yX4_deriveErrors cX4_deriveErrors 4 none (gRm 4 89) Y [.ref mo] σ (gV fun τ => gEq Y [20] σ τ ∧ (∀ c, c < n → τ.1 (gF Y mo 5) c = qw (qg r n) c)) := by
  have hr1 := hr.1
  have hr2 := hr.2.1
  have hr3 := hr.2.2
  refine gM.of (by decide) rfl ?_
  intro p e s m args below meth c hC
  have hX := hC.1
  refine gx_iconst (v := 0) hX dX4_deriveErrors_0 rfl (by decide) ?_
  refine gx_istore_n (lv' := [(1, .int 0), (0, .ref mo)]) hX dX4_deriveErrors_1 rfl (by decide) rfl ?_
  have L2 : ∀ (k2 : Nat) (i : Nat) (τ : gS), n - i < k2 → (i ≤ n) → (gEq Y [20] σ τ) → (∀ c, c < i → τ.1 (gF Y mo 5) c = qown (qg r n) c) → gG p l e (gRm 4 89) s m args below meth c Y (gV fun τ => gEq Y [20] σ τ ∧ (∀ c, c < n → τ.1 (gF Y mo 5) c = qw (qg r n) c)) τ 2 [(0, .ref mo), (1, .int (nI i))] [] := by
    intro k2
    induction k2 with
    | zero => intro i τ hk2; exact absurd hk2 (Nat.not_lt_zero _)
    | succ k2 ih2 =>
      intro i τ hk2 hi he hd
      have hrt := hr.eq hM he (by decide)
      have hal2 : ∀ c d, c < n → d < n → qt (τ.1 (gF Y mo 6) c) d = qall (qg r n) c d := by rw [he.at (gM6 hM) (by decide)]; exact hal
      refine gx_iload_n hX 1 dX4_deriveErrors_2 rfl rfl ?_
      refine gx_aload_n hX 0 dX4_deriveErrors_3 rfl rfl ?_
      refine gx_get hC 0 inlX4 wf_RX4_7 rfl (gM0 hM) rfl rfl rfl rfl dX4_deriveErrors_4 rfl ?_
      refine gx_iconst (v := 0) hX dX4_deriveErrors_7 rfl (by decide) ?_
      refine gx_iald (i := 0) hC (gM1 hM) rfl rfl (by omega) rfl dX4_deriveErrors_8 rfl ?_
      refine gx_topi (b := (nI n)) (by rw [(hrt).1]; exact hr2) ?_
      refine gx_nat_ge (i := i) (j := n) (tgt := 113) hX dX4_deriveErrors_9 (by decide) rfl rfl rfl (by omega) (by omega) (fun h9 => ?_) (fun h9 => ?_)
      · refine gx_iconst (v := 0) hX dX4_deriveErrors_113 rfl (by decide) ?_
        refine gx_istore_n (lv' := [(1, .int 0), (0, .ref mo)]) hX dX4_deriveErrors_114 rfl (by decide) rfl ?_
        have L115 : ∀ (k115 : Nat) (t : Nat) (τ : gS), n - t < k115 → (t ≤ n) → (gEq Y [20] σ τ) → (∀ c, c < n → τ.1 (gF Y mo 5) c = (qit (fun _ w => qit (qst (qg r n)) n w) t (qw0 (qg r n))) c) → gG p l e (gRm 4 89) s m args below meth c Y (gV fun τ => gEq Y [20] σ τ ∧ (∀ c, c < n → τ.1 (gF Y mo 5) c = qw (qg r n) c)) τ 115 [(0, .ref mo), (1, .int (nI t))] [] := by
          intro k115
          induction k115 with
          | zero => intro t τ hk115; exact absurd hk115 (Nat.not_lt_zero _)
          | succ k115 ih115 =>
            intro t τ hk115 ht he hd
            have hrt := hr.eq hM he (by decide)
            refine gx_iload_n hX 1 dX4_deriveErrors_115 rfl rfl ?_
            refine gx_aload_n hX 0 dX4_deriveErrors_116 rfl rfl ?_
            refine gx_get hC 0 inlX4 wf_RX4_7 rfl (gM0 hM) rfl rfl rfl rfl dX4_deriveErrors_117 rfl ?_
            refine gx_iconst (v := 0) hX dX4_deriveErrors_120 rfl (by decide) ?_
            refine gx_iald (i := 0) hC (gM1 hM) rfl rfl (by omega) rfl dX4_deriveErrors_121 rfl ?_
            refine gx_topi (b := (nI n)) (by rw [(hrt).1]; exact hr2) ?_
            refine gx_nat_ge (i := t) (j := n) (tgt := 191) hX dX4_deriveErrors_122 (by decide) rfl rfl rfl (by omega) (by omega) (fun h122 => ?_) (fun h122 => ?_)
            · exact gx_vret hC dX4_deriveErrors_191 (⟨he, fun c hc => by rw [hd c hc, show t = n by omega]; rfl⟩)
            · refine gx_iconst (v := 0) hX dX4_deriveErrors_125 rfl (by decide) ?_
              refine gx_istore_n (lv' := [(2, .int 0), (0, .ref mo), (1, .int (nI t))]) hX dX4_deriveErrors_126 rfl (by decide) rfl ?_
              have L127 : ∀ (k127 : Nat) (c1 : Nat) (υ : gS) (w : Nat → Int32), n - c1 < k127 → (c1 ≤ n) → (gEq Y [20] σ υ) → (w = qit (qst (qg r n)) c1 (qit (fun _ w => qit (qst (qg r n)) n w) t (qw0 (qg r n)))) → (∀ c, c < n → υ.1 (gF Y mo 5) c = w c) → gG p l e (gRm 4 89) s m args below meth c Y (gV fun τ => gEq Y [20] σ τ ∧ (∀ c, c < n → τ.1 (gF Y mo 5) c = qw (qg r n) c)) υ 127 [(0, .ref mo), (1, .int (nI t)), (2, .int (nI c1))] [] := by
                intro k127
                induction k127 with
                | zero => intro c1 υ w hk127; exact absurd hk127 (Nat.not_lt_zero _)
                | succ k127 ih127 =>
                  intro c1 υ w hk127 hc1 heu hwe hw
                  have hru := hr.eq hM heu (by decide)
                  refine gx_iload_n hX 2 dX4_deriveErrors_127 rfl rfl ?_
                  refine gx_aload_n hX 0 dX4_deriveErrors_128 rfl rfl ?_
                  refine gx_get hC 0 inlX4 wf_RX4_7 rfl (gM0 hM) rfl rfl rfl rfl dX4_deriveErrors_129 rfl ?_
                  refine gx_iconst (v := 0) hX dX4_deriveErrors_132 rfl (by decide) ?_
                  refine gx_iald (i := 0) hC (gM1 hM) rfl rfl (by omega) rfl dX4_deriveErrors_133 rfl ?_
                  refine gx_topi (b := (nI n)) (by rw [(hru).1]; exact hr2) ?_
                  refine gx_nat_ge (i := c1) (j := n) (tgt := 185) hX dX4_deriveErrors_134 (by decide) rfl rfl rfl (by omega) (by omega) (fun h134 => ?_) (fun h134 => ?_)
                  · refine gx_iinc (w := (nI (t + 1))) (lv' := [(1, .int (nI (t + 1))), (0, .ref mo), (2, .int (nI c1))]) hX 1 dX4_deriveErrors_185 rfl rfl (nI_add _ _) (by decide) rfl ?_
                    refine gx_goto (pc' := 115) hX dX4_deriveErrors_188 (by decide) ?_
                    exact gx_sub [1, 0] rfl (ih115 (t + 1) _ (by omega) (by omega) heu (fun c hc => by show _ = qit (qst (qg r n)) n (qit (fun _ w => qit (qst (qg r n)) n w) t (qw0 (qg r n))) c; rw [hw c hc, hwe, show c1 = n by omega]))
                  · refine gx_aload_n hX 0 dX4_deriveErrors_137 rfl rfl ?_
                    refine gx_get hC 5 inlX4 wf_RX4_22 rfl (gM0 hM) rfl rfl rfl rfl dX4_deriveErrors_138 rfl ?_
                    refine gx_iload_n hX 2 dX4_deriveErrors_141 rfl rfl ?_
                    refine gx_iald (i := c1) hC (gM5 hM) rfl rfl (by omega) rfl dX4_deriveErrors_142 rfl ?_
                    refine gx_if_ne (tgt := 179) hX dX4_deriveErrors_143 (by decide) rfl (fun h143 => ?_) (fun h143 => ?_)
                    · refine gx_iinc (w := (nI (c1 + 1))) (lv' := [(2, .int (nI (c1 + 1))), (0, .ref mo), (1, .int (nI t))]) hX 2 dX4_deriveErrors_179 rfl rfl (nI_add _ _) (by decide) rfl ?_
                      refine gx_goto (pc' := 127) hX dX4_deriveErrors_182 (by decide) ?_
                      exact gx_sub [1, 2, 0] rfl (ih127 (c1 + 1) _ (qst (qg r n) c1 w) (by omega) (by omega) heu (by rw [hwe]; rfl) (fun c hc => by first | (rw [qst_no (Or.inl (by rw [← hw c1 h134]; exact h143))]; exact hw c hc) | (rw [qst_no (Or.inr ⟨hb153, hb166⟩)]; exact hw c hc)))
                    · refine gx_aload_n hX 0 dX4_deriveErrors_146 rfl rfl ?_
                      refine gx_aload_n hX 0 dX4_deriveErrors_147 rfl rfl ?_
                      refine gx_iload_n hX 2 dX4_deriveErrors_148 rfl rfl ?_
                      refine gx_iconst (v := 2) hX dX4_deriveErrors_149 rfl (by decide) ?_
                      refine gx_callV (As := [.int (nI c1), .int 2]) (st := [.ref mo]) hC (c_X4_get l Y mo υ r c1 2 hM hru.1 (by omega)) kX4_get wm_RX4_50 rfl (gM0 hM) rfl rfl rfl rfl rfl dX4_deriveErrors_150 rfl (gx_ki fun r150 τ150 hq150 => ?_)
                      obtain ⟨rfl, rfl⟩ := hq150
                      refine gx_callV (As := [.int (r (17 + 10 * c1 + 2))]) (st := []) hC (c_X4_isBad l Y mo υ r n hM hru w hw (r (17 + 10 * c1 + 2))) kX4_isBad wm_RX4_67 rfl (gM0 hM) rfl rfl rfl rfl rfl dX4_deriveErrors_153 rfl (gx_ki fun r153 τ153 hq153 => ?_)
                      obtain ⟨rfl, ⟨rfl, hb153⟩ | ⟨rfl, hb153⟩⟩ := hq153
                      · refine gx_if_ne_t (tgt := 172) hX dX4_deriveErrors_156 (by decide) (by decide) ?_
                        refine gx_aload_n hX 0 dX4_deriveErrors_172 rfl rfl ?_
                        refine gx_get hC 5 inlX4 wf_RX4_22 rfl (gM0 hM) rfl rfl rfl rfl dX4_deriveErrors_173 rfl ?_
                        refine gx_iload_n hX 2 dX4_deriveErrors_176 rfl rfl ?_
                        refine gx_iconst (v := 5) hX dX4_deriveErrors_177 rfl (by decide) ?_
                        refine gx_iast (i := c1) hC (gM5 hM) rfl rfl rfl rfl (by omega) rfl dX4_deriveErrors_178 rfl ?_
                        refine gx_iinc (w := (nI (c1 + 1))) (lv' := [(2, .int (nI (c1 + 1))), (0, .ref mo), (1, .int (nI t))]) hX 2 dX4_deriveErrors_179 rfl rfl (nI_add _ _) (by decide) rfl ?_
                        refine gx_goto (pc' := 127) hX dX4_deriveErrors_182 (by decide) ?_
                        exact gx_sub [1, 2, 0] rfl (ih127 (c1 + 1) _ (qst (qg r n) c1 w) (by omega) (by omega) (heu.put (gM5 hM) (by decide)) (by rw [hwe]; rfl) (fun c hc => by rw [qst_yes (by rw [← hw c1 h134]; exact h143) (by first | exact Or.inl hb153 | exact Or.inr hb166)]; exact uI_qup hw c hc))
                      · refine gx_if_ne_f (tgt := 172) hX dX4_deriveErrors_156 (by decide) rfl (by decide) ?_
                        refine gx_aload_n hX 0 dX4_deriveErrors_159 rfl rfl ?_
                        refine gx_aload_n hX 0 dX4_deriveErrors_160 rfl rfl ?_
                        refine gx_iload_n hX 2 dX4_deriveErrors_161 rfl rfl ?_
                        refine gx_iconst (v := 3) hX dX4_deriveErrors_162 rfl (by decide) ?_
                        refine gx_callV (As := [.int (nI c1), .int 3]) (st := [.ref mo]) hC (c_X4_get l Y mo υ r c1 3 hM hru.1 (by omega)) kX4_get wm_RX4_50 rfl (gM0 hM) rfl rfl rfl rfl rfl dX4_deriveErrors_163 rfl (gx_ki fun r163 τ163 hq163 => ?_)
                        obtain ⟨rfl, rfl⟩ := hq163
                        refine gx_callV (As := [.int (r (17 + 10 * c1 + 3))]) (st := []) hC (c_X4_isBad l Y mo υ r n hM hru w hw (r (17 + 10 * c1 + 3))) kX4_isBad wm_RX4_67 rfl (gM0 hM) rfl rfl rfl rfl rfl dX4_deriveErrors_166 rfl (gx_ki fun r166 τ166 hq166 => ?_)
                        obtain ⟨rfl, ⟨rfl, hb166⟩ | ⟨rfl, hb166⟩⟩ := hq166
                        · refine gx_if_eq_f (tgt := 179) hX dX4_deriveErrors_169 (by decide) rfl (by decide) ?_
                          refine gx_aload_n hX 0 dX4_deriveErrors_172 rfl rfl ?_
                          refine gx_get hC 5 inlX4 wf_RX4_22 rfl (gM0 hM) rfl rfl rfl rfl dX4_deriveErrors_173 rfl ?_
                          refine gx_iload_n hX 2 dX4_deriveErrors_176 rfl rfl ?_
                          refine gx_iconst (v := 5) hX dX4_deriveErrors_177 rfl (by decide) ?_
                          refine gx_iast (i := c1) hC (gM5 hM) rfl rfl rfl rfl (by omega) rfl dX4_deriveErrors_178 rfl ?_
                          refine gx_iinc (w := (nI (c1 + 1))) (lv' := [(2, .int (nI (c1 + 1))), (0, .ref mo), (1, .int (nI t))]) hX 2 dX4_deriveErrors_179 rfl rfl (nI_add _ _) (by decide) rfl ?_
                          refine gx_goto (pc' := 127) hX dX4_deriveErrors_182 (by decide) ?_
                          exact gx_sub [1, 2, 0] rfl (ih127 (c1 + 1) _ (qst (qg r n) c1 w) (by omega) (by omega) (heu.put (gM5 hM) (by decide)) (by rw [hwe]; rfl) (fun c hc => by rw [qst_yes (by rw [← hw c1 h134]; exact h143) (by first | exact Or.inl hb153 | exact Or.inr hb166)]; exact uI_qup hw c hc))
                        · refine gx_if_eq_t (tgt := 179) hX dX4_deriveErrors_169 (by decide) (by decide) ?_
                          refine gx_iinc (w := (nI (c1 + 1))) (lv' := [(2, .int (nI (c1 + 1))), (0, .ref mo), (1, .int (nI t))]) hX 2 dX4_deriveErrors_179 rfl rfl (nI_add _ _) (by decide) rfl ?_
                          refine gx_goto (pc' := 127) hX dX4_deriveErrors_182 (by decide) ?_
                          exact gx_sub [1, 2, 0] rfl (ih127 (c1 + 1) _ (qst (qg r n) c1 w) (by omega) (by omega) heu (by rw [hwe]; rfl) (fun c hc => by first | (rw [qst_no (Or.inl (by rw [← hw c1 h134]; exact h143))]; exact hw c hc) | (rw [qst_no (Or.inr ⟨hb153, hb166⟩)]; exact hw c hc)))
              exact gx_sub [1, 2, 0] rfl (L127 (n + 1) 0 _ _ (by omega) (by omega) he rfl hd)
        exact gx_sub [1, 0] rfl (L115 (n + 1) 0 τ (by omega) (by omega) he (fun c hc => by show _ = qw0 (qg r n) c; unfold qw0; rw [if_pos (show c < qn (qg r n) from hc)]; exact hd c (by omega)))
      · refine gx_aload_n hX 0 dX4_deriveErrors_12 rfl rfl ?_
        refine gx_aload_n hX 0 dX4_deriveErrors_13 rfl rfl ?_
        refine gx_iload_n hX 1 dX4_deriveErrors_14 rfl rfl ?_
        refine gx_iconst (v := 0) hX dX4_deriveErrors_15 rfl (by decide) ?_
        refine gx_callV (As := [.int (nI i), .int 0]) (st := [.ref mo]) hC (c_X4_get l Y mo τ r i 0 hM hrt.1 (by omega)) kX4_get wm_RX4_50 rfl (gM0 hM) rfl rfl rfl rfl rfl dX4_deriveErrors_16 rfl (gx_ki fun r16 τ16 hq16 => ?_)
        obtain ⟨rfl, rfl⟩ := hq16
        refine gx_callV (As := [.int (r (17 + 10 * i + 0))]) (st := []) hC (c_X4_definersOf l Y mo τ r n hM hrt (r (17 + 10 * i + 0))) kX4_definersOf wm_RX4_53 rfl (gM0 hM) rfl rfl rfl rfl rfl dX4_deriveErrors_19 rfl (gx_ki fun r19 τ19 hq19 => ?_)
        obtain ⟨rfl, rfl⟩ := hq19
        refine gx_iconst (v := 1) hX dX4_deriveErrors_22 rfl (by decide) ?_
        refine gx_iload_n hX 1 dX4_deriveErrors_23 rfl rfl ?_
        refine gx_ishl hX dX4_deriveErrors_24 rfl ?_
        refine gx_icmp_eq (tgt := 32) hX dX4_deriveErrors_25 (by decide) rfl (fun h25 => ?_) (fun h25 => ?_)
        · refine gx_iconst (v := 0) hX dX4_deriveErrors_32 rfl (by decide) ?_
          refine gx_istore_n (lv' := [(2, .int 0), (0, .ref mo), (1, .int (nI i))]) hX dX4_deriveErrors_33 rfl (by decide) rfl ?_
          refine gx_aload_n hX 1 dX4_deriveErrors_34 rfl rfl ?_
          refine gx_aload_n hX 1 dX4_deriveErrors_35 rfl rfl ?_
          refine gx_iload_n hX 2 dX4_deriveErrors_36 rfl rfl ?_
          refine gx_iconst (v := 2) hX dX4_deriveErrors_37 rfl (by decide) ?_
          refine gx_callV (As := [.int (nI i), .int 2]) (st := [.ref mo]) hC (c_X4_get l Y mo τ r i 2 hM hrt.1 (by omega)) kX4_get wm_RX4_50 rfl (gM0 hM) rfl rfl rfl rfl rfl dX4_deriveErrors_38 rfl (gx_ki fun r38 τ38 hq38 => ?_)
          obtain ⟨rfl, rfl⟩ := hq38
          refine gx_callV (As := [.int (r (17 + 10 * i + 2))]) (st := []) hC (c_X4_isUndefined l Y mo τ r n hM hrt (r (17 + 10 * i + 2))) kX4_isUndefined wm_RX4_63 rfl (gM0 hM) rfl rfl rfl rfl rfl dX4_deriveErrors_41 rfl (gx_ki fun r41 τ41 hq41 => ?_)
          obtain ⟨rfl, ⟨rfl, hb41⟩ | ⟨rfl, hb41⟩⟩ := hq41
          · refine gx_if_ne_t (tgt := 60) hX dX4_deriveErrors_44 (by decide) (by decide) ?_
            refine gx_iconst (v := 1) hX dX4_deriveErrors_60 rfl (by decide) ?_
            refine gx_goto (pc' := 65) hX dX4_deriveErrors_61 (by decide) ?_
            refine gx_istore_n (lv' := [(3, .int 1), (2, .int 0), (0, .ref mo), (1, .int (nI i))]) hX dX4_deriveErrors_65 rfl (by decide) rfl ?_
            refine gx_aload_n hX 2 dX4_deriveErrors_66 rfl rfl ?_
            refine gx_get hC 5 inlX4 wf_RX4_22 rfl (gM0 hM) rfl rfl rfl rfl dX4_deriveErrors_67 rfl ?_
            refine gx_iload_n hX 3 dX4_deriveErrors_70 rfl rfl ?_
            refine gx_iload_n hX 1 dX4_deriveErrors_71 rfl rfl ?_
            refine gx_if_eq_t (tgt := 79) hX dX4_deriveErrors_72 (by decide) (by decide) ?_
            refine gx_aload_n hX 2 dX4_deriveErrors_79 rfl rfl ?_
            refine gx_get hC 6 inlX4 wf_RX4_25 rfl (gM0 hM) rfl rfl rfl rfl dX4_deriveErrors_80 rfl ?_
            refine gx_iload_n hX 3 dX4_deriveErrors_83 rfl rfl ?_
            refine gx_iald (i := i) hC (gM6 hM) rfl rfl (by omega) rfl dX4_deriveErrors_84 rfl ?_
            refine gx_iload_n hX 3 dX4_deriveErrors_85 rfl rfl ?_
            refine gx_ishr hX dX4_deriveErrors_86 rfl ?_
            refine gx_iconst (v := 1) hX dX4_deriveErrors_87 rfl (by decide) ?_
            refine gx_iand hX dX4_deriveErrors_88 rfl ?_
            refine gx_iconst (v := 1) hX dX4_deriveErrors_89 rfl (by decide) ?_
            refine gx_icmp_ne (tgt := 97) hX dX4_deriveErrors_90 (by decide) rfl (fun h90 => ?_) (fun h90 => ?_)
            · refine gx_iload_n hX 0 dX4_deriveErrors_97 rfl rfl ?_
              refine gx_if_eq_f (tgt := 105) hX dX4_deriveErrors_98 (by decide) rfl (by decide) ?_
              refine gx_iconst (v := 4) hX dX4_deriveErrors_101 rfl (by decide) ?_
              refine gx_topi (b := (qown (qg r n) i)) (by unfold qown; rw [if_pos (show qdf (qg r n) (qV (qg r n) i) = qb i from h25)]; rw [if_neg (show ¬ qall (qg r n) i i = true by rw [← hal2 i i h9 h9]; exact fun q => h90 (qt_iff.mpr q))]; rw [if_pos (by first | exact Or.inl hb41 | exact Or.inr hb54)]) ?_
              refine gx_goto (pc' := 106) hX dX4_deriveErrors_102 (by decide) ?_
              refine gx_iast (i := i) hC (gM5 hM) rfl rfl rfl rfl (by omega) rfl dX4_deriveErrors_106 rfl ?_
              refine gx_iinc (w := (nI (i + 1))) (lv' := [(1, .int (nI (i + 1))), (3, .int 1), (2, .int 0), (0, .ref mo)]) hX 3 dX4_deriveErrors_107 rfl rfl (nI_add _ _) (by decide) rfl ?_
              refine gx_goto (pc' := 2) hX dX4_deriveErrors_110 (by decide) ?_
              exact gx_sub [3, 0] rfl (ih2 (i + 1) _ (by omega) (by omega) (he.put (gM5 hM) (by decide)) (uI_rng hd rfl))
            · refine gx_iconst (v := 3) hX dX4_deriveErrors_93 rfl (by decide) ?_
              refine gx_topi (b := (qown (qg r n) i)) (by unfold qown; rw [if_pos (show qdf (qg r n) (qV (qg r n) i) = qb i from h25)]; rw [if_pos (show qall (qg r n) i i = true by rw [← hal2 i i h9 h9]; exact qt_iff.mp h90)]) ?_
              refine gx_goto (pc' := 106) hX dX4_deriveErrors_94 (by decide) ?_
              refine gx_iast (i := i) hC (gM5 hM) rfl rfl rfl rfl (by omega) rfl dX4_deriveErrors_106 rfl ?_
              refine gx_iinc (w := (nI (i + 1))) (lv' := [(1, .int (nI (i + 1))), (3, .int 1), (2, .int 0), (0, .ref mo)]) hX 3 dX4_deriveErrors_107 rfl rfl (nI_add _ _) (by decide) rfl ?_
              refine gx_goto (pc' := 2) hX dX4_deriveErrors_110 (by decide) ?_
              exact gx_sub [3, 0] rfl (ih2 (i + 1) _ (by omega) (by omega) (he.put (gM5 hM) (by decide)) (uI_rng hd rfl))
          · refine gx_if_ne_f (tgt := 60) hX dX4_deriveErrors_44 (by decide) rfl (by decide) ?_
            refine gx_aload_n hX 1 dX4_deriveErrors_47 rfl rfl ?_
            refine gx_aload_n hX 1 dX4_deriveErrors_48 rfl rfl ?_
            refine gx_iload_n hX 2 dX4_deriveErrors_49 rfl rfl ?_
            refine gx_iconst (v := 3) hX dX4_deriveErrors_50 rfl (by decide) ?_
            refine gx_callV (As := [.int (nI i), .int 3]) (st := [.ref mo]) hC (c_X4_get l Y mo τ r i 3 hM hrt.1 (by omega)) kX4_get wm_RX4_50 rfl (gM0 hM) rfl rfl rfl rfl rfl dX4_deriveErrors_51 rfl (gx_ki fun r51 τ51 hq51 => ?_)
            obtain ⟨rfl, rfl⟩ := hq51
            refine gx_callV (As := [.int (r (17 + 10 * i + 3))]) (st := []) hC (c_X4_isUndefined l Y mo τ r n hM hrt (r (17 + 10 * i + 3))) kX4_isUndefined wm_RX4_63 rfl (gM0 hM) rfl rfl rfl rfl rfl dX4_deriveErrors_54 rfl (gx_ki fun r54 τ54 hq54 => ?_)
            obtain ⟨rfl, ⟨rfl, hb54⟩ | ⟨rfl, hb54⟩⟩ := hq54
            · refine gx_if_eq_f (tgt := 64) hX dX4_deriveErrors_57 (by decide) rfl (by decide) ?_
              refine gx_iconst (v := 1) hX dX4_deriveErrors_60 rfl (by decide) ?_
              refine gx_goto (pc' := 65) hX dX4_deriveErrors_61 (by decide) ?_
              refine gx_istore_n (lv' := [(3, .int 1), (2, .int 0), (0, .ref mo), (1, .int (nI i))]) hX dX4_deriveErrors_65 rfl (by decide) rfl ?_
              refine gx_aload_n hX 2 dX4_deriveErrors_66 rfl rfl ?_
              refine gx_get hC 5 inlX4 wf_RX4_22 rfl (gM0 hM) rfl rfl rfl rfl dX4_deriveErrors_67 rfl ?_
              refine gx_iload_n hX 3 dX4_deriveErrors_70 rfl rfl ?_
              refine gx_iload_n hX 1 dX4_deriveErrors_71 rfl rfl ?_
              refine gx_if_eq_t (tgt := 79) hX dX4_deriveErrors_72 (by decide) (by decide) ?_
              refine gx_aload_n hX 2 dX4_deriveErrors_79 rfl rfl ?_
              refine gx_get hC 6 inlX4 wf_RX4_25 rfl (gM0 hM) rfl rfl rfl rfl dX4_deriveErrors_80 rfl ?_
              refine gx_iload_n hX 3 dX4_deriveErrors_83 rfl rfl ?_
              refine gx_iald (i := i) hC (gM6 hM) rfl rfl (by omega) rfl dX4_deriveErrors_84 rfl ?_
              refine gx_iload_n hX 3 dX4_deriveErrors_85 rfl rfl ?_
              refine gx_ishr hX dX4_deriveErrors_86 rfl ?_
              refine gx_iconst (v := 1) hX dX4_deriveErrors_87 rfl (by decide) ?_
              refine gx_iand hX dX4_deriveErrors_88 rfl ?_
              refine gx_iconst (v := 1) hX dX4_deriveErrors_89 rfl (by decide) ?_
              refine gx_icmp_ne (tgt := 97) hX dX4_deriveErrors_90 (by decide) rfl (fun h90 => ?_) (fun h90 => ?_)
              · refine gx_iload_n hX 0 dX4_deriveErrors_97 rfl rfl ?_
                refine gx_if_eq_f (tgt := 105) hX dX4_deriveErrors_98 (by decide) rfl (by decide) ?_
                refine gx_iconst (v := 4) hX dX4_deriveErrors_101 rfl (by decide) ?_
                refine gx_topi (b := (qown (qg r n) i)) (by unfold qown; rw [if_pos (show qdf (qg r n) (qV (qg r n) i) = qb i from h25)]; rw [if_neg (show ¬ qall (qg r n) i i = true by rw [← hal2 i i h9 h9]; exact fun q => h90 (qt_iff.mpr q))]; rw [if_pos (by first | exact Or.inl hb41 | exact Or.inr hb54)]) ?_
                refine gx_goto (pc' := 106) hX dX4_deriveErrors_102 (by decide) ?_
                refine gx_iast (i := i) hC (gM5 hM) rfl rfl rfl rfl (by omega) rfl dX4_deriveErrors_106 rfl ?_
                refine gx_iinc (w := (nI (i + 1))) (lv' := [(1, .int (nI (i + 1))), (3, .int 1), (2, .int 0), (0, .ref mo)]) hX 3 dX4_deriveErrors_107 rfl rfl (nI_add _ _) (by decide) rfl ?_
                refine gx_goto (pc' := 2) hX dX4_deriveErrors_110 (by decide) ?_
                exact gx_sub [3, 0] rfl (ih2 (i + 1) _ (by omega) (by omega) (he.put (gM5 hM) (by decide)) (uI_rng hd rfl))
              · refine gx_iconst (v := 3) hX dX4_deriveErrors_93 rfl (by decide) ?_
                refine gx_topi (b := (qown (qg r n) i)) (by unfold qown; rw [if_pos (show qdf (qg r n) (qV (qg r n) i) = qb i from h25)]; rw [if_pos (show qall (qg r n) i i = true by rw [← hal2 i i h9 h9]; exact qt_iff.mp h90)]) ?_
                refine gx_goto (pc' := 106) hX dX4_deriveErrors_94 (by decide) ?_
                refine gx_iast (i := i) hC (gM5 hM) rfl rfl rfl rfl (by omega) rfl dX4_deriveErrors_106 rfl ?_
                refine gx_iinc (w := (nI (i + 1))) (lv' := [(1, .int (nI (i + 1))), (3, .int 1), (2, .int 0), (0, .ref mo)]) hX 3 dX4_deriveErrors_107 rfl rfl (nI_add _ _) (by decide) rfl ?_
                refine gx_goto (pc' := 2) hX dX4_deriveErrors_110 (by decide) ?_
                exact gx_sub [3, 0] rfl (ih2 (i + 1) _ (by omega) (by omega) (he.put (gM5 hM) (by decide)) (uI_rng hd rfl))
            · refine gx_if_eq_t (tgt := 64) hX dX4_deriveErrors_57 (by decide) (by decide) ?_
              refine gx_iconst (v := 0) hX dX4_deriveErrors_64 rfl (by decide) ?_
              refine gx_istore_n (lv' := [(3, .int 0), (2, .int 0), (0, .ref mo), (1, .int (nI i))]) hX dX4_deriveErrors_65 rfl (by decide) rfl ?_
              refine gx_aload_n hX 2 dX4_deriveErrors_66 rfl rfl ?_
              refine gx_get hC 5 inlX4 wf_RX4_22 rfl (gM0 hM) rfl rfl rfl rfl dX4_deriveErrors_67 rfl ?_
              refine gx_iload_n hX 3 dX4_deriveErrors_70 rfl rfl ?_
              refine gx_iload_n hX 1 dX4_deriveErrors_71 rfl rfl ?_
              refine gx_if_eq_t (tgt := 79) hX dX4_deriveErrors_72 (by decide) (by decide) ?_
              refine gx_aload_n hX 2 dX4_deriveErrors_79 rfl rfl ?_
              refine gx_get hC 6 inlX4 wf_RX4_25 rfl (gM0 hM) rfl rfl rfl rfl dX4_deriveErrors_80 rfl ?_
              refine gx_iload_n hX 3 dX4_deriveErrors_83 rfl rfl ?_
              refine gx_iald (i := i) hC (gM6 hM) rfl rfl (by omega) rfl dX4_deriveErrors_84 rfl ?_
              refine gx_iload_n hX 3 dX4_deriveErrors_85 rfl rfl ?_
              refine gx_ishr hX dX4_deriveErrors_86 rfl ?_
              refine gx_iconst (v := 1) hX dX4_deriveErrors_87 rfl (by decide) ?_
              refine gx_iand hX dX4_deriveErrors_88 rfl ?_
              refine gx_iconst (v := 1) hX dX4_deriveErrors_89 rfl (by decide) ?_
              refine gx_icmp_ne (tgt := 97) hX dX4_deriveErrors_90 (by decide) rfl (fun h90 => ?_) (fun h90 => ?_)
              · refine gx_iload_n hX 0 dX4_deriveErrors_97 rfl rfl ?_
                refine gx_if_eq_t (tgt := 105) hX dX4_deriveErrors_98 (by decide) (by decide) ?_
                refine gx_iconst (v := 0) hX dX4_deriveErrors_105 rfl (by decide) ?_
                refine gx_topi (b := (qown (qg r n) i)) (by unfold qown; rw [if_pos (show qdf (qg r n) (qV (qg r n) i) = qb i from h25)]; rw [if_neg (show ¬ qall (qg r n) i i = true by rw [← hal2 i i h9 h9]; exact fun q => h90 (qt_iff.mpr q))]; rw [if_neg (by rintro (q | q); exact hb41 q; exact hb54 q)]) ?_
                refine gx_iast (i := i) hC (gM5 hM) rfl rfl rfl rfl (by omega) rfl dX4_deriveErrors_106 rfl ?_
                refine gx_iinc (w := (nI (i + 1))) (lv' := [(1, .int (nI (i + 1))), (3, .int 0), (2, .int 0), (0, .ref mo)]) hX 3 dX4_deriveErrors_107 rfl rfl (nI_add _ _) (by decide) rfl ?_
                refine gx_goto (pc' := 2) hX dX4_deriveErrors_110 (by decide) ?_
                exact gx_sub [3, 0] rfl (ih2 (i + 1) _ (by omega) (by omega) (he.put (gM5 hM) (by decide)) (uI_rng hd rfl))
              · refine gx_iconst (v := 3) hX dX4_deriveErrors_93 rfl (by decide) ?_
                refine gx_topi (b := (qown (qg r n) i)) (by unfold qown; rw [if_pos (show qdf (qg r n) (qV (qg r n) i) = qb i from h25)]; rw [if_pos (show qall (qg r n) i i = true by rw [← hal2 i i h9 h9]; exact qt_iff.mp h90)]) ?_
                refine gx_goto (pc' := 106) hX dX4_deriveErrors_94 (by decide) ?_
                refine gx_iast (i := i) hC (gM5 hM) rfl rfl rfl rfl (by omega) rfl dX4_deriveErrors_106 rfl ?_
                refine gx_iinc (w := (nI (i + 1))) (lv' := [(1, .int (nI (i + 1))), (3, .int 0), (2, .int 0), (0, .ref mo)]) hX 3 dX4_deriveErrors_107 rfl rfl (nI_add _ _) (by decide) rfl ?_
                refine gx_goto (pc' := 2) hX dX4_deriveErrors_110 (by decide) ?_
                exact gx_sub [3, 0] rfl (ih2 (i + 1) _ (by omega) (by omega) (he.put (gM5 hM) (by decide)) (uI_rng hd rfl))
        · refine gx_iconst (v := 1) hX dX4_deriveErrors_28 rfl (by decide) ?_
          refine gx_goto (pc' := 33) hX dX4_deriveErrors_29 (by decide) ?_
          refine gx_istore_n (lv' := [(2, .int 1), (0, .ref mo), (1, .int (nI i))]) hX dX4_deriveErrors_33 rfl (by decide) rfl ?_
          refine gx_aload_n hX 1 dX4_deriveErrors_34 rfl rfl ?_
          refine gx_aload_n hX 1 dX4_deriveErrors_35 rfl rfl ?_
          refine gx_iload_n hX 2 dX4_deriveErrors_36 rfl rfl ?_
          refine gx_iconst (v := 2) hX dX4_deriveErrors_37 rfl (by decide) ?_
          refine gx_callV (As := [.int (nI i), .int 2]) (st := [.ref mo]) hC (c_X4_get l Y mo τ r i 2 hM hrt.1 (by omega)) kX4_get wm_RX4_50 rfl (gM0 hM) rfl rfl rfl rfl rfl dX4_deriveErrors_38 rfl (gx_ki fun r38 τ38 hq38 => ?_)
          obtain ⟨rfl, rfl⟩ := hq38
          refine gx_callV (As := [.int (r (17 + 10 * i + 2))]) (st := []) hC (c_X4_isUndefined l Y mo τ r n hM hrt (r (17 + 10 * i + 2))) kX4_isUndefined wm_RX4_63 rfl (gM0 hM) rfl rfl rfl rfl rfl dX4_deriveErrors_41 rfl (gx_ki fun r41 τ41 hq41 => ?_)
          obtain ⟨rfl, ⟨rfl, hb41⟩ | ⟨rfl, hb41⟩⟩ := hq41
          · refine gx_if_ne_t (tgt := 60) hX dX4_deriveErrors_44 (by decide) (by decide) ?_
            refine gx_iconst (v := 1) hX dX4_deriveErrors_60 rfl (by decide) ?_
            refine gx_goto (pc' := 65) hX dX4_deriveErrors_61 (by decide) ?_
            refine gx_istore_n (lv' := [(3, .int 1), (2, .int 1), (0, .ref mo), (1, .int (nI i))]) hX dX4_deriveErrors_65 rfl (by decide) rfl ?_
            refine gx_aload_n hX 2 dX4_deriveErrors_66 rfl rfl ?_
            refine gx_get hC 5 inlX4 wf_RX4_22 rfl (gM0 hM) rfl rfl rfl rfl dX4_deriveErrors_67 rfl ?_
            refine gx_iload_n hX 3 dX4_deriveErrors_70 rfl rfl ?_
            refine gx_iload_n hX 1 dX4_deriveErrors_71 rfl rfl ?_
            refine gx_if_eq_f (tgt := 79) hX dX4_deriveErrors_72 (by decide) rfl (by decide) ?_
            refine gx_iconst (v := 2) hX dX4_deriveErrors_75 rfl (by decide) ?_
            refine gx_topi (b := (qown (qg r n) i)) (by unfold qown; rw [if_neg (show ¬ qdf (qg r n) (qV (qg r n) i) = qb i from h25)]) ?_
            refine gx_goto (pc' := 106) hX dX4_deriveErrors_76 (by decide) ?_
            refine gx_iast (i := i) hC (gM5 hM) rfl rfl rfl rfl (by omega) rfl dX4_deriveErrors_106 rfl ?_
            refine gx_iinc (w := (nI (i + 1))) (lv' := [(1, .int (nI (i + 1))), (3, .int 1), (2, .int 1), (0, .ref mo)]) hX 3 dX4_deriveErrors_107 rfl rfl (nI_add _ _) (by decide) rfl ?_
            refine gx_goto (pc' := 2) hX dX4_deriveErrors_110 (by decide) ?_
            exact gx_sub [3, 0] rfl (ih2 (i + 1) _ (by omega) (by omega) (he.put (gM5 hM) (by decide)) (uI_rng hd rfl))
          · refine gx_if_ne_f (tgt := 60) hX dX4_deriveErrors_44 (by decide) rfl (by decide) ?_
            refine gx_aload_n hX 1 dX4_deriveErrors_47 rfl rfl ?_
            refine gx_aload_n hX 1 dX4_deriveErrors_48 rfl rfl ?_
            refine gx_iload_n hX 2 dX4_deriveErrors_49 rfl rfl ?_
            refine gx_iconst (v := 3) hX dX4_deriveErrors_50 rfl (by decide) ?_
            refine gx_callV (As := [.int (nI i), .int 3]) (st := [.ref mo]) hC (c_X4_get l Y mo τ r i 3 hM hrt.1 (by omega)) kX4_get wm_RX4_50 rfl (gM0 hM) rfl rfl rfl rfl rfl dX4_deriveErrors_51 rfl (gx_ki fun r51 τ51 hq51 => ?_)
            obtain ⟨rfl, rfl⟩ := hq51
            refine gx_callV (As := [.int (r (17 + 10 * i + 3))]) (st := []) hC (c_X4_isUndefined l Y mo τ r n hM hrt (r (17 + 10 * i + 3))) kX4_isUndefined wm_RX4_63 rfl (gM0 hM) rfl rfl rfl rfl rfl dX4_deriveErrors_54 rfl (gx_ki fun r54 τ54 hq54 => ?_)
            obtain ⟨rfl, ⟨rfl, hb54⟩ | ⟨rfl, hb54⟩⟩ := hq54
            · refine gx_if_eq_f (tgt := 64) hX dX4_deriveErrors_57 (by decide) rfl (by decide) ?_
              refine gx_iconst (v := 1) hX dX4_deriveErrors_60 rfl (by decide) ?_
              refine gx_goto (pc' := 65) hX dX4_deriveErrors_61 (by decide) ?_
              refine gx_istore_n (lv' := [(3, .int 1), (2, .int 1), (0, .ref mo), (1, .int (nI i))]) hX dX4_deriveErrors_65 rfl (by decide) rfl ?_
              refine gx_aload_n hX 2 dX4_deriveErrors_66 rfl rfl ?_
              refine gx_get hC 5 inlX4 wf_RX4_22 rfl (gM0 hM) rfl rfl rfl rfl dX4_deriveErrors_67 rfl ?_
              refine gx_iload_n hX 3 dX4_deriveErrors_70 rfl rfl ?_
              refine gx_iload_n hX 1 dX4_deriveErrors_71 rfl rfl ?_
              refine gx_if_eq_f (tgt := 79) hX dX4_deriveErrors_72 (by decide) rfl (by decide) ?_
              refine gx_iconst (v := 2) hX dX4_deriveErrors_75 rfl (by decide) ?_
              refine gx_topi (b := (qown (qg r n) i)) (by unfold qown; rw [if_neg (show ¬ qdf (qg r n) (qV (qg r n) i) = qb i from h25)]) ?_
              refine gx_goto (pc' := 106) hX dX4_deriveErrors_76 (by decide) ?_
              refine gx_iast (i := i) hC (gM5 hM) rfl rfl rfl rfl (by omega) rfl dX4_deriveErrors_106 rfl ?_
              refine gx_iinc (w := (nI (i + 1))) (lv' := [(1, .int (nI (i + 1))), (3, .int 1), (2, .int 1), (0, .ref mo)]) hX 3 dX4_deriveErrors_107 rfl rfl (nI_add _ _) (by decide) rfl ?_
              refine gx_goto (pc' := 2) hX dX4_deriveErrors_110 (by decide) ?_
              exact gx_sub [3, 0] rfl (ih2 (i + 1) _ (by omega) (by omega) (he.put (gM5 hM) (by decide)) (uI_rng hd rfl))
            · refine gx_if_eq_t (tgt := 64) hX dX4_deriveErrors_57 (by decide) (by decide) ?_
              refine gx_iconst (v := 0) hX dX4_deriveErrors_64 rfl (by decide) ?_
              refine gx_istore_n (lv' := [(3, .int 0), (2, .int 1), (0, .ref mo), (1, .int (nI i))]) hX dX4_deriveErrors_65 rfl (by decide) rfl ?_
              refine gx_aload_n hX 2 dX4_deriveErrors_66 rfl rfl ?_
              refine gx_get hC 5 inlX4 wf_RX4_22 rfl (gM0 hM) rfl rfl rfl rfl dX4_deriveErrors_67 rfl ?_
              refine gx_iload_n hX 3 dX4_deriveErrors_70 rfl rfl ?_
              refine gx_iload_n hX 1 dX4_deriveErrors_71 rfl rfl ?_
              refine gx_if_eq_f (tgt := 79) hX dX4_deriveErrors_72 (by decide) rfl (by decide) ?_
              refine gx_iconst (v := 2) hX dX4_deriveErrors_75 rfl (by decide) ?_
              refine gx_topi (b := (qown (qg r n) i)) (by unfold qown; rw [if_neg (show ¬ qdf (qg r n) (qV (qg r n) i) = qb i from h25)]) ?_
              refine gx_goto (pc' := 106) hX dX4_deriveErrors_76 (by decide) ?_
              refine gx_iast (i := i) hC (gM5 hM) rfl rfl rfl rfl (by omega) rfl dX4_deriveErrors_106 rfl ?_
              refine gx_iinc (w := (nI (i + 1))) (lv' := [(1, .int (nI (i + 1))), (3, .int 0), (2, .int 1), (0, .ref mo)]) hX 3 dX4_deriveErrors_107 rfl rfl (nI_add _ _) (by decide) rfl ?_
              refine gx_goto (pc' := 2) hX dX4_deriveErrors_110 (by decide) ?_
              exact gx_sub [3, 0] rfl (ih2 (i + 1) _ (by omega) (by omega) (he.put (gM5 hM) (by decide)) (uI_rng hd rfl))
  exact gx_sub [1, 0] rfl (L2 (n + 1) 0 σ (by omega) (by omega) gEq.rf (fun c hc => absurd hc (Nat.not_lt_zero c)))

set_option maxRecDepth 100000 in
set_option maxHeartbeats 4000000 in
theorem c_X4_deriveOrder (l : Launch) (Y : gL) (mo : Nat) (σ : gS) (r : Nat → Int32) (n : Nat) (hM : gLM Y mo) (hr : gRow Y mo σ r n) (hdi : ∀ c, c < n → σ.1 (gF Y mo 4) c = qdir (qg r n) c) (hwr : ∀ c, c < n → σ.1 (gF Y mo 5) c = qw (qg r n) c) : gM l yX4_deriveOrder cX4_deriveOrder 4 none (gRm 0 0) Y [.ref mo] σ (gV fun τ => gEq Y [15, 22] σ τ ∧ τ.1 mo 2 = σ.1 mo 2 ∧ τ.1 mo 8 = nI (qm (qg r n)) ∧ (∀ k, k < qm (qg r n) → τ.1 (gF Y mo 7) k = nI (qo (qg r n) k))) := by
  have hr1 := hr.1
  have hr2 := hr.2.1
  have hr3 := hr.2.2
  refine gM.of (by decide) rfl ?_
  intro p e s m args below meth c hC
  have hX := hC.1
  refine gx_aload_n hX 0 dX4_deriveOrder_0 rfl rfl ?_
  refine gx_iconst (v := 0) hX dX4_deriveOrder_1 rfl (by decide) ?_
  refine gx_put (τ := uI σ mo 8 0) hC 8 inlX4 tyX4_ok nmX4 wf_RX4_70 rfl (gM0 hM) rfl rfl (by simp [gE, uI]) (fun b hb => gEnt_I hb) rfl rfl rfl rfl rfl rfl rfl dX4_deriveOrder_2 rfl ?_
  refine gx_iconst (v := 0) hX dX4_deriveOrder_5 rfl (by decide) ?_
  refine gx_istore_n (lv' := [(1, .int 0), (0, .ref mo)]) hX dX4_deriveOrder_6 rfl (by decide) rfl ?_
  refine gx_iconst (v := 1) hX dX4_deriveOrder_7 rfl (by decide) ?_
  refine gx_istore_n (lv' := [(2, .int 1), (1, .int 0), (0, .ref mo)]) hX dX4_deriveOrder_8 rfl (by decide) rfl ?_
  have L9 : ∀ (k9 : Nat) (k e1 : Nat) (mv : Int32) (τ : gS), 2 * (n - k) + e1 < k9 → (gEq Y [15, 22] σ τ) → (τ.1 mo 2 = σ.1 mo 2) → (τ.1 mo 8 = nI k) → (∀ j, j < k → qo (qg r n) j < n) → (∀ j, j < k → τ.1 (gF Y mo 7) j = nI (qo (qg r n) j)) → ((mv = 1 ∧ e1 = 1) ∨ (mv = 0 ∧ e1 = 0 ∧ qo (qg r n) k = n)) → gG p l e (gRm 0 0) s m args below meth c Y (gV fun τ => gEq Y [15, 22] σ τ ∧ τ.1 mo 2 = σ.1 mo 2 ∧ τ.1 mo 8 = nI (qm (qg r n)) ∧ (∀ k, k < qm (qg r n) → τ.1 (gF Y mo 7) k = nI (qo (qg r n) k))) τ 9 [(0, .ref mo), (1, .int (qpl (qg r n) k)), (2, .int mv)] [] := by
    intro k9
    induction k9 with
    | zero => intro k e1 mv τ hk9; exact absurd hk9 (Nat.not_lt_zero _)
    | succ k9 ih9 =>
      intro k e1 mv τ hk9 he h2 hk8 hall hod hmv
      have hrt := hr.eq hM he (by decide)
      have hdi2 : ∀ c, c < n → τ.1 (gF Y mo 4) c = qdir (qg r n) c := by rw [he.at (gM4 hM) (by decide)]; exact hdi
      have hwr2 : ∀ c, c < n → τ.1 (gF Y mo 5) c = qw (qg r n) c := by rw [he.at (gM5 hM) (by decide)]; exact hwr
      refine gx_iload_n hX 2 dX4_deriveOrder_9 rfl rfl ?_
      refine gx_if_eq (tgt := 98) hX dX4_deriveOrder_10 (by decide) rfl (fun h10 => ?_) (fun h10 => ?_)
      · have hqk : qo (qg r n) k = n := by rcases hmv with ⟨q, -⟩ | ⟨-, -, q⟩; exact absurd (q.symm.trans h10) (by decide); exact q
        have hqm : qm (qg r n) = k := qm_at (g := qg r n) hr3 hall hqk
        exact gx_vret hC dX4_deriveOrder_98 (⟨he, h2, by rw [hqm]; exact hk8, by rw [hqm]; exact hod⟩)
      · have hmv1 : e1 = 1 := by rcases hmv with ⟨-, q⟩ | ⟨q, -⟩; exact q; exact absurd q h10
        refine gx_iconst (v := 0) hX dX4_deriveOrder_13 rfl (by decide) ?_
        refine gx_istore_n (lv' := [(2, .int 0), (0, .ref mo), (1, .int (qpl (qg r n) k))]) hX dX4_deriveOrder_14 rfl (by decide) rfl ?_
        refine gx_iconst (v := 0) hX dX4_deriveOrder_15 rfl (by decide) ?_
        refine gx_istore_n (lv' := [(3, .int 0), (2, .int 0), (0, .ref mo), (1, .int (qpl (qg r n) k))]) hX dX4_deriveOrder_16 rfl (by decide) rfl ?_
        have L17 : ∀ (k17 : Nat) (c1 : Nat), n - c1 < k17 → (c1 ≤ n) → (∀ j, j < c1 → qrdy (qg r n) (qpl (qg r n) k) j = false) → gG p l e (gRm 0 0) s m args below meth c Y (gV fun τ => gEq Y [15, 22] σ τ ∧ τ.1 mo 2 = σ.1 mo 2 ∧ τ.1 mo 8 = nI (qm (qg r n)) ∧ (∀ k, k < qm (qg r n) → τ.1 (gF Y mo 7) k = nI (qo (qg r n) k))) τ 17 [(0, .ref mo), (1, .int (qpl (qg r n) k)), (2, .int 0), (3, .int (nI c1))] [] := by
          intro k17
          induction k17 with
          | zero => intro c1 hk17; exact absurd hk17 (Nat.not_lt_zero _)
          | succ k17 ih17 =>
            intro c1 hk17 hc1 hno
            refine gx_iload_n hX 3 dX4_deriveOrder_17 rfl rfl ?_
            refine gx_aload_n hX 0 dX4_deriveOrder_18 rfl rfl ?_
            refine gx_get hC 0 inlX4 wf_RX4_7 rfl (gM0 hM) rfl rfl rfl rfl dX4_deriveOrder_19 rfl ?_
            refine gx_iconst (v := 0) hX dX4_deriveOrder_22 rfl (by decide) ?_
            refine gx_iald (i := 0) hC (gM1 hM) rfl rfl (by omega) rfl dX4_deriveOrder_23 rfl ?_
            refine gx_topi (b := (nI n)) (by rw [(hrt).1]; exact hr2) ?_
            refine gx_nat_ge (i := c1) (j := n) (tgt := 95) hX dX4_deriveOrder_24 (by decide) rfl rfl rfl (by omega) (by omega) (fun h24 => ?_) (fun h24 => ?_)
            · refine gx_goto (pc' := 9) hX dX4_deriveOrder_95 (by decide) ?_
              exact gx_sub [0, 1, 2] rfl (ih9 k 0 0 _ (by omega) he h2 hk8 hall hod (Or.inr ⟨rfl, rfl, qfst_none (fun j hj => hno j (by have e : qn (qg r n) = n := rfl; omega))⟩))
            · refine gx_iload_n hX 2 dX4_deriveOrder_27 rfl rfl ?_
              refine gx_if_ne_f (tgt := 95) hX dX4_deriveOrder_28 (by decide) rfl (by decide) ?_
              refine gx_aload_n hX 0 dX4_deriveOrder_31 rfl rfl ?_
              refine gx_get hC 5 inlX4 wf_RX4_22 rfl (gM0 hM) rfl rfl rfl rfl dX4_deriveOrder_32 rfl ?_
              refine gx_iload_n hX 3 dX4_deriveOrder_35 rfl rfl ?_
              refine gx_iald (i := c1) hC (gM5 hM) rfl rfl (by omega) rfl dX4_deriveOrder_36 rfl ?_
              refine gx_if_ne (tgt := 89) hX dX4_deriveOrder_37 (by decide) rfl (fun h37 => ?_) (fun h37 => ?_)
              · refine gx_iinc (w := (nI (c1 + 1))) (lv' := [(3, .int (nI (c1 + 1))), (0, .ref mo), (1, .int (qpl (qg r n) k)), (2, .int 0)]) hX 3 dX4_deriveOrder_89 rfl rfl (nI_add _ _) (by decide) rfl ?_
                refine gx_goto (pc' := 17) hX dX4_deriveOrder_92 (by decide) ?_
                exact gx_sub [1, 2, 3, 0] rfl (ih17 (c1 + 1) (by omega) (by omega) (fun j hj => by rcases Nat.lt_or_ge j c1 with q | q; exact hno j q; rw [show j = c1 by omega]; unfold qrdy; rw [← hwr2 c1 h24, ← hdi2 c1 h24]; first | (rw [decide_eq_false h37]; rfl) | (cases e : qt (qpl (qg r n) k) c1; exact absurd (qt_iff0.mpr e) h45; simp) | (rw [decide_eq_false h58]; simp)))
              · refine gx_iload_n hX 1 dX4_deriveOrder_40 rfl rfl ?_
                refine gx_iload_n hX 3 dX4_deriveOrder_41 rfl rfl ?_
                refine gx_ishr hX dX4_deriveOrder_42 rfl ?_
                refine gx_iconst (v := 1) hX dX4_deriveOrder_43 rfl (by decide) ?_
                refine gx_iand hX dX4_deriveOrder_44 rfl ?_
                refine gx_if_ne (tgt := 89) hX dX4_deriveOrder_45 (by decide) rfl (fun h45 => ?_) (fun h45 => ?_)
                · refine gx_iinc (w := (nI (c1 + 1))) (lv' := [(3, .int (nI (c1 + 1))), (0, .ref mo), (1, .int (qpl (qg r n) k)), (2, .int 0)]) hX 3 dX4_deriveOrder_89 rfl rfl (nI_add _ _) (by decide) rfl ?_
                  refine gx_goto (pc' := 17) hX dX4_deriveOrder_92 (by decide) ?_
                  exact gx_sub [1, 2, 3, 0] rfl (ih17 (c1 + 1) (by omega) (by omega) (fun j hj => by rcases Nat.lt_or_ge j c1 with q | q; exact hno j q; rw [show j = c1 by omega]; unfold qrdy; rw [← hwr2 c1 h24, ← hdi2 c1 h24]; first | (rw [decide_eq_false h37]; rfl) | (cases e : qt (qpl (qg r n) k) c1; exact absurd (qt_iff0.mpr e) h45; simp) | (rw [decide_eq_false h58]; simp)))
                · refine gx_aload_n hX 0 dX4_deriveOrder_48 rfl rfl ?_
                  refine gx_get hC 4 inlX4 wf_RX4_19 rfl (gM0 hM) rfl rfl rfl rfl dX4_deriveOrder_49 rfl ?_
                  refine gx_iload_n hX 3 dX4_deriveOrder_52 rfl rfl ?_
                  refine gx_iald (i := c1) hC (gM4 hM) rfl rfl (by omega) rfl dX4_deriveOrder_53 rfl ?_
                  refine gx_iload_n hX 1 dX4_deriveOrder_54 rfl rfl ?_
                  refine gx_iconst (v := (-1)) hX dX4_deriveOrder_55 rfl (by decide) ?_
                  refine gx_ixor hX dX4_deriveOrder_56 rfl ?_
                  refine gx_iand hX dX4_deriveOrder_57 rfl ?_
                  refine gx_if_ne (tgt := 89) hX dX4_deriveOrder_58 (by decide) rfl (fun h58 => ?_) (fun h58 => ?_)
                  · refine gx_iinc (w := (nI (c1 + 1))) (lv' := [(3, .int (nI (c1 + 1))), (0, .ref mo), (1, .int (qpl (qg r n) k)), (2, .int 0)]) hX 3 dX4_deriveOrder_89 rfl rfl (nI_add _ _) (by decide) rfl ?_
                    refine gx_goto (pc' := 17) hX dX4_deriveOrder_92 (by decide) ?_
                    exact gx_sub [1, 2, 3, 0] rfl (ih17 (c1 + 1) (by omega) (by omega) (fun j hj => by rcases Nat.lt_or_ge j c1 with q | q; exact hno j q; rw [show j = c1 by omega]; unfold qrdy; rw [← hwr2 c1 h24, ← hdi2 c1 h24]; first | (rw [decide_eq_false h37]; rfl) | (cases e : qt (qpl (qg r n) k) c1; exact absurd (qt_iff0.mpr e) h45; simp) | (rw [decide_eq_false h58]; simp)))
                  · have hc1n := h24
                    have hq : qo (qg r n) k = c1 := qfst_at h24 hno (by unfold qrdy; rw [← hwr2 c1 h24, ← hdi2 c1 h24, h37, qt_iff0.mp h45, h58]; rfl)
                    have hkn : k < n := qo_few (g := qg r n) hr3 (k := k + 1) (fun j hj => by rcases Nat.lt_or_ge j k with q | q; exact hall j q; rw [show j = k by omega, hq]; exact h24)
                    refine gx_aload_n hX 0 dX4_deriveOrder_61 rfl rfl ?_
                    refine gx_get hC 7 inlX4 wf_RX4_28 rfl (gM0 hM) rfl rfl rfl rfl dX4_deriveOrder_62 rfl ?_
                    refine gx_aload_n hX 0 dX4_deriveOrder_65 rfl rfl ?_
                    refine gx_get hC 8 inlX4 wf_RX4_70 rfl (gM0 hM) rfl rfl rfl rfl dX4_deriveOrder_66 rfl ?_
                    refine gx_topi (b := (nI k)) (by first | exact hk8 | (rw [uI_ne (gK_ne (gM0 hM) (gM7 hM) (by decide))]; exact hk8)) ?_
                    refine gx_iload_n hX 3 dX4_deriveOrder_69 rfl rfl ?_
                    refine gx_iast (i := k) hC (gM7 hM) rfl rfl rfl rfl (by omega) rfl dX4_deriveOrder_70 rfl ?_
                    refine gx_aload_n hX 0 dX4_deriveOrder_71 rfl rfl ?_
                    refine gx_dup hX dX4_deriveOrder_72 rfl rfl ?_
                    refine gx_get hC 8 inlX4 wf_RX4_70 rfl (gM0 hM) rfl rfl rfl rfl dX4_deriveOrder_73 rfl ?_
                    refine gx_topi (b := (nI k)) (by first | exact hk8 | (rw [uI_ne (gK_ne (gM0 hM) (gM7 hM) (by decide))]; exact hk8)) ?_
                    refine gx_iconst (v := 1) hX dX4_deriveOrder_76 rfl (by decide) ?_
                    refine gx_iaddN (i := k) (j := 1) hX dX4_deriveOrder_77 rfl rfl rfl ?_
                    refine gx_put (τ := uI (uI τ (gF Y mo 7) k (nI c1)) mo 8 (nI (k + 1))) hC 8 inlX4 tyX4_ok nmX4 wf_RX4_70 rfl (gM0 hM) rfl rfl (by simp [gE, uI]) (fun b hb => gEnt_I hb) rfl rfl rfl rfl rfl rfl rfl dX4_deriveOrder_78 rfl ?_
                    refine gx_iload_n hX 1 dX4_deriveOrder_81 rfl rfl ?_
                    refine gx_iconst (v := 1) hX dX4_deriveOrder_82 rfl (by decide) ?_
                    refine gx_iload_n hX 3 dX4_deriveOrder_83 rfl rfl ?_
                    refine gx_ishl hX dX4_deriveOrder_84 rfl ?_
                    refine gx_ior hX dX4_deriveOrder_85 rfl ?_
                    refine gx_topi (b := (qpl (qg r n) (k + 1))) (by show qpl (qg r n) k ||| qb c1 = qpl (qg r n) k ||| qb (qo (qg r n) k); rw [hq]) ?_
                    refine gx_istore_n (lv' := [(1, .int (qpl (qg r n) (k + 1))), (0, .ref mo), (2, .int 0), (3, .int (nI c1))]) hX dX4_deriveOrder_86 rfl (by decide) rfl ?_
                    refine gx_iconst (v := 1) hX dX4_deriveOrder_87 rfl (by decide) ?_
                    refine gx_istore_n (lv' := [(2, .int 1), (1, .int (qpl (qg r n) (k + 1))), (0, .ref mo), (3, .int (nI c1))]) hX dX4_deriveOrder_88 rfl (by decide) rfl ?_
                    refine gx_iinc (w := (nI (c1 + 1))) (lv' := [(3, .int (nI (c1 + 1))), (2, .int 1), (1, .int (qpl (qg r n) (k + 1))), (0, .ref mo)]) hX 3 dX4_deriveOrder_89 rfl rfl (nI_add _ _) (by decide) rfl ?_
                    refine gx_goto (pc' := 17) hX dX4_deriveOrder_92 (by decide) ?_
                    refine gx_iload_n hX 0 dX4_deriveOrder_17 rfl rfl ?_
                    refine gx_aload_n hX 3 dX4_deriveOrder_18 rfl rfl ?_
                    refine gx_get hC 0 inlX4 wf_RX4_7 rfl (gM0 hM) rfl rfl rfl rfl dX4_deriveOrder_19 rfl ?_
                    refine gx_iconst (v := 0) hX dX4_deriveOrder_22 rfl (by decide) ?_
                    refine gx_iald (i := 0) hC (gM1 hM) rfl rfl (by omega) rfl dX4_deriveOrder_23 rfl ?_
                    refine gx_topi (b := (nI n)) (by rw [(((hrt.put (gM7 hM) (by decide) hM).put (gM0 hM) (by decide) hM)).1]; exact hr2) ?_
                    refine gx_nat_ge (i := c1 + 1) (j := n) (tgt := 95) hX dX4_deriveOrder_24 (by decide) rfl rfl rfl (by omega) (by omega) (fun h24 => ?_) (fun h24 => ?_)
                    · refine gx_goto (pc' := 9) hX dX4_deriveOrder_95 (by decide) ?_
                      exact gx_sub [3, 2, 1] rfl (ih9 (k + 1) 1 1 _ (by omega) ((he.put (gM7 hM) (by decide)).put (gM0 hM) (by decide)) (by rw [uI_off (by decide), uI_ne (gK_ne (gM0 hM) (gM7 hM) (by decide))]; exact h2) uI_at (fun j hj => by rcases Nat.lt_or_ge j k with q | q; exact hall j q; rw [show j = k by omega, hq]; exact hc1n) (fun j hj => by rw [uI_ne (gK_ne (gM7 hM) (gM0 hM) (by decide))]; exact uI_rng (P := fun j => nI (qo (qg r n) j)) hod (by rw [hq]) j hj) (Or.inl ⟨rfl, rfl⟩))
                    · refine gx_iload_n hX 1 dX4_deriveOrder_27 rfl rfl ?_
                      refine gx_if_ne_t (tgt := 95) hX dX4_deriveOrder_28 (by decide) (by decide) ?_
                      refine gx_goto (pc' := 9) hX dX4_deriveOrder_95 (by decide) ?_
                      exact gx_sub [3, 2, 1] rfl (ih9 (k + 1) 1 1 _ (by omega) ((he.put (gM7 hM) (by decide)).put (gM0 hM) (by decide)) (by rw [uI_off (by decide), uI_ne (gK_ne (gM0 hM) (gM7 hM) (by decide))]; exact h2) uI_at (fun j hj => by rcases Nat.lt_or_ge j k with q | q; exact hall j q; rw [show j = k by omega, hq]; exact hc1n) (fun j hj => by rw [uI_ne (gK_ne (gM7 hM) (gM0 hM) (by decide))]; exact uI_rng (P := fun j => nI (qo (qg r n) j)) hod (by rw [hq]) j hj) (Or.inl ⟨rfl, rfl⟩))
        exact gx_sub [2, 3, 1, 0] rfl (L17 (n + 1) 0 (by omega) (by omega) (fun j hj => absurd hj (Nat.not_lt_zero j)))
  exact gx_sub [2, 1, 0] rfl (L9 (2 * n + 2) 0 1 1 _ (by omega) (gEq.rf.put (gM0 hM) (by decide)) (uI_off (by decide)) uI_at (fun j hj => absurd hj (Nat.not_lt_zero j)) (fun j hj => absurd hj (Nat.not_lt_zero j)) (Or.inl ⟨rfl, rfl⟩))
end
section
theorem qfr_t {f : Bool} {v : Int32} (h : v = if f = true then 1 else 0) (h0 : ¬ v = 0) : f = true := by
  cases f
  · exact absurd h h0
  · rfl
theorem qfr_f {f : Bool} {v : Int32} (h : v = if f = true then 1 else 0) (h0 : v = 0) : f = false := by
  cases f
  · rfl
  · exact absurd (h.symm.trans h0) (by decide)
theorem uI_qub {σ : gS} {a i n : Nat} {v : Int32} {f : Nat → Bool} {b : Bool} (h : ∀ c, c < n → σ.1 a c = if f c = true then 1 else 0) (hv : v = if b = true then 1 else 0) (c : Nat) (hc : c < n) : (uI σ a i v).1 a c = if qub f i b c = true then 1 else 0 := by
  unfold qub
  by_cases e : c = i
  · subst e
    rw [uI_at, if_pos rfl]
    exact hv
  · rw [uI_off e, if_neg e]
    exact h c hc
theorem qout4 {x : Int32} (h0 : ¬ x = 0) (h1 : ¬ x = 1) (h2 : ¬ x = 2) (h3 : ¬ x = 3) (h4 : ¬ x = 4) : x.toInt < 0 ∨ 4 < x.toInt := by
  have e0 : ¬ x.toInt = 0 := lv_neT h0 (by decide)
  have e1 : ¬ x.toInt = 1 := lv_neT h1 (by decide)
  have e2 : ¬ x.toInt = 2 := lv_neT h2 (by decide)
  have e3 : ¬ x.toInt = 3 := lv_neT h3 (by decide)
  have e4 : ¬ x.toInt = 4 := lv_neT h4 (by decide)
  omega
/-! rows under a put -/
theorem qup_at {f : Nat → Int32} {k : Nat} {v : Int32} : qup f k v k = v := by simp [qup]
theorem qup_off {f : Nat → Int32} {k j : Nat} {v : Int32} (h : j ≠ k) : qup f k v j = f j := by simp [qup, h]
theorem gRow.now {Y : gL} {mo : Nat} {σ : gS} {r : Nat → Int32} {n k : Nat} {v : Int32} (h : gRow Y mo σ r n) (hk : k ≠ 0) : gRow Y mo (uI σ (gF Y mo 0) k v) (qup r k v) n := by
  refine ⟨?_, ?_, h.2.2⟩
  · rw [← h.1]
    funext j
    simp [uI, qup]
  · rw [qup_off hk.symm]
    exact h.2.1
theorem qg_up {r : Nat → Int32} {n k : Nat} {v : Int32} (h : ∀ c : Nat, 17 + 10 * c + 0 ≠ k ∧ 17 + 10 * c + 2 ≠ k ∧ 17 + 10 * c + 3 ≠ k) : qg (qup r k v) n = qg r n := by
  have e0 : (fun c => qup r k v (17 + 10 * c + 0)) = fun c => r (17 + 10 * c + 0) := by funext c; rw [qup_off (h c).1]
  have e2 : (fun c => qup r k v (17 + 10 * c + 2)) = fun c => r (17 + 10 * c + 2) := by funext c; rw [qup_off (h c).2.1]
  have e3 : (fun c => qup r k v (17 + 10 * c + 3)) = fun c => r (17 + 10 * c + 3) := by funext c; rw [qup_off (h c).2.2]
  unfold qg
  rw [e0, e2, e3]
theorem qr1_off {g : qG} {r : Nat → Int32} {c k : Nat} (h2 : k ≠ 2) (h4 : k ≠ 17 + 10 * c + 4) (h5 : k ≠ 17 + 10 * c + 5) : qr1 g r c k = r k := by
  unfold qr1
  split
  · rw [qup_off h5, qup_off h4, qup_off h2]
  · rfl
theorem qg_r1 {g : qG} {r : Nat → Int32} {c n : Nat} : qg (qr1 g r c) n = qg r n := by
  unfold qr1
  split
  · rw [qg_up (by intro d; omega), qg_up (by intro d; omega), qg_up (by intro d; omega)]
  · rfl
theorem qg_r2 {g : qG} {r : Nat → Int32} {c n : Nat} : qg (qr2 g r c) n = qg r n := by
  unfold qr2
  rw [qg_up (by intro d; omega), qg_r1]
theorem qg_r3 {g : qG} {r : Nat → Int32} {c n : Nat} : qg (qr3 g r c) n = qg r n := by
  unfold qr3
  rw [qg_up (by intro d; omega), qg_r2]
theorem qr2_off {g : qG} {r : Nat → Int32} {c k : Nat} (h2 : k ≠ 2) (h4 : k ≠ 17 + 10 * c + 4) (h5 : k ≠ 17 + 10 * c + 5) (h6 : k ≠ 17 + 10 * c + 6) : qr2 g r c k = r k := by
  unfold qr2
  rw [qup_off h6, qr1_off h2 h4 h5]
theorem qr3_off {g : qG} {r : Nat → Int32} {c k : Nat} (h2 : k ≠ 2) (h4 : k ≠ 17 + 10 * c + 4) (h5 : k ≠ 17 + 10 * c + 5) (h6 : k ≠ 17 + 10 * c + 6) (h7 : k ≠ 17 + 10 * c + 7) : qr3 g r c k = r k := by
  unfold qr3
  rw [qup_off h7, qr2_off h2 h4 h5 h6]
theorem qr4_off {g : qG} {r : Nat → Int32} {c k : Nat} (h2 : k ≠ 2) (h3 : k ≠ 3) (h4 : k ≠ 17 + 10 * c + 4) (h5 : k ≠ 17 + 10 * c + 5) (h6 : k ≠ 17 + 10 * c + 6) (h7 : k ≠ 17 + 10 * c + 7) (h8 : k ≠ 17 + 10 * c + 8) : qr4 g r c k = r k := by
  unfold qr4
  rw [qup_off h3, qup_off h8, qr3_off h2 h4 h5 h6 h7]
theorem qg_r4 {g : qG} {r : Nat → Int32} {c n : Nat} : qg (qr4 g r c) n = qg r n := by
  unfold qr4
  rw [qg_up (by intro d; omega), qg_up (by intro d; omega), qg_r3]
theorem qg_run {g : qG} {r : Nat → Int32} {c n k : Nat} (hk : k < 12) (h : r 4 = nI k) : qg (qrun g r c) n = qg r n := by
  unfold qrun
  rw [h, nI_clamp (by omega)]
  rw [qg_up (by intro d; omega), qg_up (by intro d; omega), qg_r4]
theorem qrun_eq {g : qG} {r : Nat → Int32} {c k : Nat} (hk : k < 12) (h : r 4 = nI k) : qrun g r c = qup (qup (qr4 g r c) (5 + k) (nI c)) 4 (nI (k + 1)) := by
  unfold qrun
  rw [h, nI_clamp (by omega), ← nI_1]
/-- the saved rows behind one more saving -/
def qpush (P : Nat → Nat → Int32) (q : Nat) (r : Nat → Int32) : Nat → Nat → Int32 := if q = 4 then (fun j => if j < 3 then P (j + 1) else r) else (fun j => if j < q then P j else r)
def qpn (q : Nat) : Nat := if q = 4 then 4 else q + 1
/-- the model's saved rows are P 0 .. P (q - 1) -/
def gPast (Y : gL) (mo : Nat) (σ : gS) (P : Nat → Nat → Int32) (q : Nat) : Prop := q ≤ 4 ∧ σ.1 mo 2 = nI q ∧ ∀ j i, j < q → i < 137 → σ.1 (gF Y mo 1) (137 * j + i) = P j i
theorem gPast.eq {Y : gL} {mo : Nat} {σ τ : gS} {P : Nat → Nat → Int32} {q : Nat} {rs : List Nat} (h : gPast Y mo σ P q) (hM : gLM Y mo) (he : gEq Y rs σ τ) (h2 : τ.1 mo 2 = σ.1 mo 2) (h17 : 17 ∉ rs) : gPast Y mo τ P q := ⟨h.1, h2.trans h.2.1, fun j i hj hi => by rw [he.at (gM2 hM) h17]; exact h.2.2 j i hj hi⟩
end
section
set_option maxRecDepth 100000 in
set_option maxHeartbeats 4000000 in
theorem c_X4_isKnown (l : Launch) (Y : gL) (mo : Nat) (σ : gS) (r : Nat → Int32) (n : Nat) (hM : gLM Y mo) (hr : gRow Y mo σ r n) (fr : Nat → Bool) (hfr : ∀ d, d < n → σ.1 (gF Y mo 9) d = if fr d = true then 1 else 0) (x seen : Int32) (hsrc : ¬ x < 100 → qsrc (qg r n) x < 12) : gM l yX4_isKnown cX4_isKnown 4 (some .boolean) (gRm 4 87) Y [.ref mo, .int x, .int seen] σ (gI fun v τ => σ = τ ∧ ((v = 1 ∧ qkn (qg r n) r fr x seen = true) ∨ (v = 0 ∧ ¬ qkn (qg r n) r fr x seen = true))) := by
  have hr1 := hr.1
  have hr2 := hr.2.1
  have hr3 := hr.2.2
  refine gM.of (by decide) rfl ?_
  intro p e s m args below meth c hC
  have hX := hC.1
  refine gx_iload_n hX 1 dX4_isKnown_0 rfl rfl ?_
  refine gx_bipush (v := 100) hX dX4_isKnown_1 rfl (by decide) ?_
  refine gx_icmp_ge (tgt := 8) hX dX4_isKnown_3 (by decide) rfl (fun h3 => ?_) (fun h3 => ?_)
  · refine gx_aload_n hX 0 dX4_isKnown_8 rfl rfl ?_
    refine gx_iload_n hX 1 dX4_isKnown_9 rfl rfl ?_
    refine gx_callV (As := [.int x]) (st := []) hC (c_X4_source l Y mo σ r n hM hr x) kX4_source wm_RX4_60 rfl (gM0 hM) rfl rfl rfl rfl rfl dX4_isKnown_10 rfl (gx_ki fun r10 τ10 hq10 => ?_)
    obtain ⟨rfl, ⟨rfl, hb10⟩ | ⟨rfl, hb10⟩⟩ := hq10
    · have hx := qge100.mp h3
      have hsn : qsrc (qg r n) x < n := qsrc_lt (g := qg r n) hr3 hb10
      refine gx_istore_n (lv' := [(3, .int (nI (qsrc (qg r n) x))), (0, .ref mo), (1, .int x), (2, .int seen)]) hX dX4_isKnown_13 rfl (by decide) rfl ?_
      refine gx_aload_n hX 1 dX4_isKnown_14 rfl rfl ?_
      refine gx_get hC 9 inlX4 wf_RX4_31 rfl (gM0 hM) rfl rfl rfl rfl dX4_isKnown_15 rfl ?_
      refine gx_iload_n hX 0 dX4_isKnown_18 rfl rfl ?_
      refine gx_zald (i := qsrc (qg r n) x) hC (gM9 hM) rfl rfl (by omega) rfl dX4_isKnown_19 rfl ?_
      refine gx_if_eq (tgt := 37) hX dX4_isKnown_20 (by decide) rfl (fun h20 => ?_) (fun h20 => ?_)
      · have hf := qfr_f (hfr _ hsn) h20
        refine gx_iconst (v := 0) hX dX4_isKnown_37 rfl (by decide) ?_
        exact gx_zret hC rfl dX4_isKnown_38 (⟨rfl, Or.inr ⟨rfl, by unfold qkn; rw [decide_eq_false hx, hf]; first | (rw [decide_eq_false h30]; simp) | simp⟩⟩)
      · have hf := qfr_t (hfr _ hsn) h20
        refine gx_aload_n hX 1 dX4_isKnown_23 rfl rfl ?_
        refine gx_iload_n hX 0 dX4_isKnown_24 rfl rfl ?_
        refine gx_iconst (v := 5) hX dX4_isKnown_25 rfl (by decide) ?_
        refine gx_callV (As := [.int (nI (qsrc (qg r n) x)), .int 5]) (st := []) hC (c_X4_get l Y mo σ r (qsrc (qg r n) x) 5 hM hr.1 (by omega)) kX4_get wm_RX4_50 rfl (gM0 hM) rfl rfl rfl rfl rfl dX4_isKnown_26 rfl (gx_ki fun r26 τ26 hq26 => ?_)
        obtain ⟨rfl, rfl⟩ := hq26
        refine gx_iload_n hX 3 dX4_isKnown_29 rfl rfl ?_
        refine gx_icmp_ne (tgt := 37) hX dX4_isKnown_30 (by decide) rfl (fun h30 => ?_) (fun h30 => ?_)
        · refine gx_iconst (v := 0) hX dX4_isKnown_37 rfl (by decide) ?_
          exact gx_zret hC rfl dX4_isKnown_38 (⟨rfl, Or.inr ⟨rfl, by unfold qkn; rw [decide_eq_false hx, hf]; first | (rw [decide_eq_false h30]; simp) | simp⟩⟩)
        · refine gx_iconst (v := 1) hX dX4_isKnown_33 rfl (by decide) ?_
          refine gx_goto (pc' := 38) hX dX4_isKnown_34 (by decide) ?_
          exact gx_zret hC rfl dX4_isKnown_38 (⟨rfl, Or.inl ⟨rfl, by unfold qkn; rw [decide_eq_false hx, hf, decide_eq_true h30]; rfl⟩⟩)
    · exact absurd (hsrc (qge100.mp h3)) (by omega)
  · refine gx_iconst (v := 1) hX dX4_isKnown_6 rfl (by decide) ?_
    exact gx_zret hC rfl dX4_isKnown_7 (⟨rfl, Or.inl ⟨rfl, by unfold qkn; rw [decide_eq_true (Decidable.not_not.mp (fun q => h3 (qge100.mpr q)))]; rfl⟩⟩)

set_option maxRecDepth 100000 in
set_option maxHeartbeats 4000000 in
theorem c_X4_isFreshNow (l : Launch) (Y : gL) (mo : Nat) (σ : gS) (r : Nat → Int32) (n : Nat) (hM : gLM Y mo) (hr : gRow Y mo σ r n) (fr : Nat → Bool) (hfr : ∀ d, d < n → σ.1 (gF Y mo 9) d = if fr d = true then 1 else 0) (i : Nat) (hi : i < n) (hsl : ¬ r (17 + 10 * i + 2) < 100 → qsrc (qg r n) (r (17 + 10 * i + 2)) < 12) (hsr : ¬ r (17 + 10 * i + 3) < 100 → qsrc (qg r n) (r (17 + 10 * i + 3)) < 12) : gM l yX4_isFreshNow cX4_isFreshNow 2 (some .boolean) (gRm 5 110) Y [.ref mo, .int (nI i)] σ (gI fun v τ => σ = τ ∧ ((v = 1 ∧ qfn (qg r n) r fr i = true) ∨ (v = 0 ∧ ¬ qfn (qg r n) r fr i = true))) := by
  have hr1 := hr.1
  have hr2 := hr.2.1
  have hr3 := hr.2.2
  refine gM.of (by decide) rfl ?_
  intro p e s m args below meth c hC
  have hX := hC.1
  refine gx_aload_n hX 0 dX4_isFreshNow_0 rfl rfl ?_
  refine gx_iload_n hX 1 dX4_isFreshNow_1 rfl rfl ?_
  refine gx_iconst (v := 5) hX dX4_isFreshNow_2 rfl (by decide) ?_
  refine gx_callV (As := [.int (nI i), .int 5]) (st := []) hC (c_X4_get l Y mo σ r i 5 hM hr.1 (by omega)) kX4_get wm_RX4_50 rfl (gM0 hM) rfl rfl rfl rfl rfl dX4_isFreshNow_3 rfl (gx_ki fun r3 τ3 hq3 => ?_)
  obtain ⟨rfl, rfl⟩ := hq3
  refine gx_if_le (tgt := 53) hX dX4_isFreshNow_6 (by decide) rfl (fun h6 => ?_) (fun h6 => ?_)
  · refine gx_iconst (v := 0) hX dX4_isFreshNow_53 rfl (by decide) ?_
    exact gx_zret hC rfl dX4_isFreshNow_54 (⟨rfl, Or.inr ⟨rfl, by unfold qfn; first | (rw [decide_eq_false (Int32.not_lt.mpr h6)]; simp) | (intro q; simp only [Bool.and_eq_true] at q; first | exact hb23 q.2.1 | exact hb43 q.2.2)⟩⟩)
  · refine gx_aload_n hX 0 dX4_isFreshNow_9 rfl rfl ?_
    refine gx_aload_n hX 0 dX4_isFreshNow_10 rfl rfl ?_
    refine gx_iload_n hX 1 dX4_isFreshNow_11 rfl rfl ?_
    refine gx_iconst (v := 2) hX dX4_isFreshNow_12 rfl (by decide) ?_
    refine gx_callV (As := [.int (nI i), .int 2]) (st := [.ref mo]) hC (c_X4_get l Y mo σ r i 2 hM hr.1 (by omega)) kX4_get wm_RX4_50 rfl (gM0 hM) rfl rfl rfl rfl rfl dX4_isFreshNow_13 rfl (gx_ki fun r13 τ13 hq13 => ?_)
    obtain ⟨rfl, rfl⟩ := hq13
    refine gx_aload_n hX 0 dX4_isFreshNow_16 rfl rfl ?_
    refine gx_iload_n hX 1 dX4_isFreshNow_17 rfl rfl ?_
    refine gx_bipush (v := 6) hX dX4_isFreshNow_18 rfl (by decide) ?_
    refine gx_callV (As := [.int (nI i), .int 6]) (st := [.int (r (17 + 10 * i + 2)), .ref mo]) hC (c_X4_get l Y mo σ r i 6 hM hr.1 (by omega)) kX4_get wm_RX4_50 rfl (gM0 hM) rfl rfl rfl rfl rfl dX4_isFreshNow_20 rfl (gx_ki fun r20 τ20 hq20 => ?_)
    obtain ⟨rfl, rfl⟩ := hq20
    refine gx_callV (As := [.int (r (17 + 10 * i + 2)), .int (r (17 + 10 * i + 6))]) (st := []) hC (c_X4_isKnown l Y mo σ r n hM hr fr hfr (r (17 + 10 * i + 2)) (r (17 + 10 * i + 6)) hsl) kX4_isKnown wm_RX4_73 rfl (gM0 hM) rfl rfl rfl rfl rfl dX4_isFreshNow_23 rfl (gx_ki fun r23 τ23 hq23 => ?_)
    obtain ⟨rfl, ⟨rfl, hb23⟩ | ⟨rfl, hb23⟩⟩ := hq23
    · refine gx_if_eq_f (tgt := 53) hX dX4_isFreshNow_26 (by decide) rfl (by decide) ?_
      refine gx_aload_n hX 0 dX4_isFreshNow_29 rfl rfl ?_
      refine gx_aload_n hX 0 dX4_isFreshNow_30 rfl rfl ?_
      refine gx_iload_n hX 1 dX4_isFreshNow_31 rfl rfl ?_
      refine gx_iconst (v := 3) hX dX4_isFreshNow_32 rfl (by decide) ?_
      refine gx_callV (As := [.int (nI i), .int 3]) (st := [.ref mo]) hC (c_X4_get l Y mo σ r i 3 hM hr.1 (by omega)) kX4_get wm_RX4_50 rfl (gM0 hM) rfl rfl rfl rfl rfl dX4_isFreshNow_33 rfl (gx_ki fun r33 τ33 hq33 => ?_)
      obtain ⟨rfl, rfl⟩ := hq33
      refine gx_aload_n hX 0 dX4_isFreshNow_36 rfl rfl ?_
      refine gx_iload_n hX 1 dX4_isFreshNow_37 rfl rfl ?_
      refine gx_bipush (v := 7) hX dX4_isFreshNow_38 rfl (by decide) ?_
      refine gx_callV (As := [.int (nI i), .int 7]) (st := [.int (r (17 + 10 * i + 3)), .ref mo]) hC (c_X4_get l Y mo σ r i 7 hM hr.1 (by omega)) kX4_get wm_RX4_50 rfl (gM0 hM) rfl rfl rfl rfl rfl dX4_isFreshNow_40 rfl (gx_ki fun r40 τ40 hq40 => ?_)
      obtain ⟨rfl, rfl⟩ := hq40
      refine gx_callV (As := [.int (r (17 + 10 * i + 3)), .int (r (17 + 10 * i + 7))]) (st := []) hC (c_X4_isKnown l Y mo σ r n hM hr fr hfr (r (17 + 10 * i + 3)) (r (17 + 10 * i + 7)) hsr) kX4_isKnown wm_RX4_73 rfl (gM0 hM) rfl rfl rfl rfl rfl dX4_isFreshNow_43 rfl (gx_ki fun r43 τ43 hq43 => ?_)
      obtain ⟨rfl, ⟨rfl, hb43⟩ | ⟨rfl, hb43⟩⟩ := hq43
      · refine gx_if_eq_f (tgt := 53) hX dX4_isFreshNow_46 (by decide) rfl (by decide) ?_
        refine gx_iconst (v := 1) hX dX4_isFreshNow_49 rfl (by decide) ?_
        refine gx_goto (pc' := 54) hX dX4_isFreshNow_50 (by decide) ?_
        exact gx_zret hC rfl dX4_isFreshNow_54 (⟨rfl, Or.inl ⟨rfl, by unfold qfn; rw [decide_eq_true (Int32.not_le.mp h6), hb23, hb43]; rfl⟩⟩)
      · refine gx_if_eq_t (tgt := 53) hX dX4_isFreshNow_46 (by decide) (by decide) ?_
        refine gx_iconst (v := 0) hX dX4_isFreshNow_53 rfl (by decide) ?_
        exact gx_zret hC rfl dX4_isFreshNow_54 (⟨rfl, Or.inr ⟨rfl, by unfold qfn; first | (rw [decide_eq_false (Int32.not_lt.mpr h6)]; simp) | (intro q; simp only [Bool.and_eq_true] at q; first | exact hb23 q.2.1 | exact hb43 q.2.2)⟩⟩)
    · refine gx_if_eq_t (tgt := 53) hX dX4_isFreshNow_26 (by decide) (by decide) ?_
      refine gx_iconst (v := 0) hX dX4_isFreshNow_53 rfl (by decide) ?_
      exact gx_zret hC rfl dX4_isFreshNow_54 (⟨rfl, Or.inr ⟨rfl, by unfold qfn; first | (rw [decide_eq_false (Int32.not_lt.mpr h6)]; simp) | (intro q; simp only [Bool.and_eq_true] at q; first | exact hb23 q.2.1 | exact hb43 q.2.2)⟩⟩)

set_option maxRecDepth 100000 in
set_option maxHeartbeats 4000000 in
theorem c_X4_derive (l : Launch) (Y : gL) (mo : Nat) (σ : gS) (r : Nat → Int32) (n : Nat) (hM : gLM Y mo) (hr : gRow Y mo σ r n) : gM l yX4_derive cX4_derive 2 none (gRm 6 131) Y [.ref mo] σ (gV fun τ => gEq Y [15, 19, 20, 21, 22, 23] σ τ ∧ τ.1 mo 2 = σ.1 mo 2 ∧ gDer Y mo τ (qg r n) r) := by
  have hr1 := hr.1
  have hr2 := hr.2.1
  have hr3 := hr.2.2
  refine gM.of (by decide) rfl ?_
  intro p e s m args below meth c hC
  have hX := hC.1
  refine gx_aload_n hX 0 dX4_derive_0 rfl rfl ?_
  refine gx_callV (As := []) (st := []) hC (c_X4_deriveDependencies l Y mo σ r n hM hr) kX4_deriveDependencies wm_RX4_77 rfl (gM0 hM) rfl rfl rfl rfl rfl dX4_derive_1 rfl (gx_kv fun τ1 hq1 => ?_)
  have hrA := hr.eq hM hq1.1 (by decide)
  refine gx_aload_n hX 0 dX4_derive_4 rfl rfl ?_
  refine gx_callV (As := []) (st := []) hC (c_X4_deriveErrors l Y mo τ1 r n hM hrA hq1.2.2) kX4_deriveErrors wm_RX4_80 rfl (gM0 hM) rfl rfl rfl rfl rfl dX4_derive_5 rfl (gx_kv fun τ5 hq5 => ?_)
  have hrB := hrA.eq hM hq5.1 (by decide)
  have hdi2 : ∀ c, c < n → τ5.1 (gF Y mo 4) c = qdir (qg r n) c := by rw [hq5.1.at (gM4 hM) (by decide)]; exact hq1.2.1
  refine gx_aload_n hX 0 dX4_derive_8 rfl rfl ?_
  refine gx_callV (As := []) (st := []) hC (c_X4_deriveOrder l Y mo τ5 r n hM hrB hdi2 hq5.2) kX4_deriveOrder wm_RX4_83 rfl (gM0 hM) rfl rfl rfl rfl rfl dX4_derive_9 rfl (gx_kv fun τ9 hq9 => ?_)
  have hrC := hrB.eq hM hq9.1 (by decide)
  refine gx_iconst (v := 0) hX dX4_derive_12 rfl (by decide) ?_
  refine gx_istore_n (lv' := [(1, .int 0), (0, .ref mo)]) hX dX4_derive_13 rfl (by decide) rfl ?_
  have L14 : ∀ (k14 : Nat) (i : Nat) (τ : gS), n - i < k14 → (i ≤ n) → (gEq Y [23] τ9 τ) → (∀ c, c < i → τ.1 (gF Y mo 9) c = 0) → gG p l e (gRm 6 131) s m args below meth c Y (gV fun τ => gEq Y [15, 19, 20, 21, 22, 23] σ τ ∧ τ.1 mo 2 = σ.1 mo 2 ∧ gDer Y mo τ (qg r n) r) τ 14 [(0, .ref mo), (1, .int (nI i))] [] := by
    intro k14
    induction k14 with
    | zero => intro i τ hk14; exact absurd hk14 (Nat.not_lt_zero _)
    | succ k14 ih14 =>
      intro i τ hk14 hi he hf
      have hrt := hrC.eq hM he (by decide)
      refine gx_iload_n hX 1 dX4_derive_14 rfl rfl ?_
      refine gx_aload_n hX 0 dX4_derive_15 rfl rfl ?_
      refine gx_get hC 0 inlX4 wf_RX4_7 rfl (gM0 hM) rfl rfl rfl rfl dX4_derive_16 rfl ?_
      refine gx_iconst (v := 0) hX dX4_derive_19 rfl (by decide) ?_
      refine gx_iald (i := 0) hC (gM1 hM) rfl rfl (by omega) rfl dX4_derive_20 rfl ?_
      refine gx_topi (b := (nI n)) (by rw [(hrt).1]; exact hr2) ?_
      refine gx_nat_ge (i := i) (j := n) (tgt := 37) hX dX4_derive_21 (by decide) rfl rfl rfl (by omega) (by omega) (fun h21 => ?_) (fun h21 => ?_)
      · refine gx_iconst (v := 0) hX dX4_derive_37 rfl (by decide) ?_
        refine gx_istore_n (lv' := [(1, .int 0), (0, .ref mo)]) hX dX4_derive_38 rfl (by decide) rfl ?_
        have L39 : ∀ (k39 : Nat) (k : Nat) (υ : gS), qm (qg r n) - k < k39 → (k ≤ qm (qg r n)) → (gEq Y [23] τ9 υ) → (∀ c, c < n → υ.1 (gF Y mo 9) c = if qfr (qg r n) r k c = true then 1 else 0) → gG p l e (gRm 6 131) s m args below meth c Y (gV fun τ => gEq Y [15, 19, 20, 21, 22, 23] σ τ ∧ τ.1 mo 2 = σ.1 mo 2 ∧ gDer Y mo τ (qg r n) r) υ 39 [(0, .ref mo), (1, .int (nI k))] [] := by
          intro k39
          induction k39 with
          | zero => intro k υ hk39; exact absurd hk39 (Nat.not_lt_zero _)
          | succ k39 ih39 =>
            intro k υ hk39 hk heu hfr
            have hru := hrC.eq hM heu (by decide)
            refine gx_iload_n hX 1 dX4_derive_39 rfl rfl ?_
            refine gx_aload_n hX 0 dX4_derive_40 rfl rfl ?_
            refine gx_get hC 8 inlX4 wf_RX4_70 rfl (gM0 hM) rfl rfl rfl rfl dX4_derive_41 rfl ?_
            refine gx_topi (b := (nI (qm (qg r n)))) (by rw [heu.2 mo (by rw [gM0 hM]; decide)]; exact hq9.2.2.1) ?_
            have hqn := qm_le (qg r n)
            have hqn2 : qn (qg r n) = n := rfl
            refine gx_nat_ge (i := k) (j := qm (qg r n)) (tgt := 74) hX dX4_derive_44 (by decide) rfl rfl rfl (by omega) (by omega) (fun h44 => ?_) (fun h44 => ?_)
            · refine gx_vret hC dX4_derive_74 ?_
              have hkm : k = qm (qg r n) := by omega
              have hA : gEq Y [15, 19, 20, 21, 22, 23] σ υ := (((hq1.1.mono (by decide)).tr (hq5.1.mono (by decide))).tr (hq9.1.mono (by decide))).tr (heu.mono (by decide))
              have h15 : υ.1 mo = τ9.1 mo := heu.at (gM0 hM) (by decide)
              have h15b : τ5.1 mo = σ.1 mo := by rw [hq5.1.at (gM0 hM) (by decide), hq1.1.at (gM0 hM) (by decide)]
              refine ⟨hA, by rw [h15, hq9.2.1, h15b], ?_, ?_, ?_, by rw [h15]; exact hq9.2.2.1, ?_, ?_⟩
              · rw [heu.at (gM4 hM) (by decide), hq9.1.at (gM4 hM) (by decide)]; exact hdi2
              · rw [heu.at (gM6 hM) (by decide), hq9.1.at (gM6 hM) (by decide), hq5.1.at (gM6 hM) (by decide)]; exact hq1.2.2
              · rw [heu.at (gM5 hM) (by decide), hq9.1.at (gM5 hM) (by decide)]; exact hq5.2
              · rw [heu.at (gM7 hM) (by decide)]; exact hq9.2.2.2
              · rw [hkm] at hfr; exact hfr
            · refine gx_aload_n hX 0 dX4_derive_47 rfl rfl ?_
              refine gx_get hC 9 inlX4 wf_RX4_31 rfl (gM0 hM) rfl rfl rfl rfl dX4_derive_48 rfl ?_
              refine gx_aload_n hX 0 dX4_derive_51 rfl rfl ?_
              refine gx_get hC 7 inlX4 wf_RX4_28 rfl (gM0 hM) rfl rfl rfl rfl dX4_derive_52 rfl ?_
              refine gx_iload_n hX 1 dX4_derive_55 rfl rfl ?_
              refine gx_iald (i := k) hC (gM7 hM) rfl rfl (by omega) rfl dX4_derive_56 rfl ?_
              refine gx_topi (b := (nI (qo (qg r n) k))) (by rw [heu.at (gM7 hM) (by decide)]; exact hq9.2.2.2 k h44) ?_
              have hok : qo (qg r n) k < n := qm_lt h44
              have hsw := qw_src (g := qg r n) hr3 hok (qo_w hok)
              refine gx_aload_n hX 0 dX4_derive_57 rfl rfl ?_
              refine gx_aload_n hX 0 dX4_derive_58 rfl rfl ?_
              refine gx_get hC 7 inlX4 wf_RX4_28 rfl (gM0 hM) rfl rfl rfl rfl dX4_derive_59 rfl ?_
              refine gx_iload_n hX 1 dX4_derive_62 rfl rfl ?_
              refine gx_iald (i := k) hC (gM7 hM) rfl rfl (by omega) rfl dX4_derive_63 rfl ?_
              refine gx_topi (b := (nI (qo (qg r n) k))) (by rw [heu.at (gM7 hM) (by decide)]; exact hq9.2.2.2 k h44) ?_
              refine gx_callV (As := [.int (nI (qo (qg r n) k))]) (st := [.int (nI (qo (qg r n) k)), .ref (gF Y mo 9)]) hC (c_X4_isFreshNow l Y mo υ r n hM hru (qfr (qg r n) r k) hfr (qo (qg r n) k) hok hsw.1 hsw.2) kX4_isFreshNow wm_RX4_86 rfl (gM0 hM) rfl rfl rfl rfl rfl dX4_derive_64 rfl (gx_ki fun r64 τ64 hq64 => ?_)
              obtain ⟨rfl, ⟨rfl, hb64⟩ | ⟨rfl, hb64⟩⟩ := hq64
              · refine gx_zast (i := qo (qg r n) k) hC (gM9 hM) rfl rfl rfl rfl rfl (by omega) rfl dX4_derive_67 rfl ?_
                refine gx_iinc (w := (nI (k + 1))) (lv' := [(1, .int (nI (k + 1))), (0, .ref mo)]) hX 1 dX4_derive_68 rfl rfl (nI_add _ _) (by decide) rfl ?_
                refine gx_goto (pc' := 39) hX dX4_derive_71 (by decide) ?_
                exact gx_sub [1, 0] rfl (ih39 (k + 1) _ (by omega) (by omega) (heu.put (gM9 hM) (by decide)) (uI_qub hfr (by first | rw [hb64]; rfl | (rw [if_neg hb64]))))
              · refine gx_zast (i := qo (qg r n) k) hC (gM9 hM) rfl rfl rfl rfl rfl (by omega) rfl dX4_derive_67 rfl ?_
                refine gx_iinc (w := (nI (k + 1))) (lv' := [(1, .int (nI (k + 1))), (0, .ref mo)]) hX 1 dX4_derive_68 rfl rfl (nI_add _ _) (by decide) rfl ?_
                refine gx_goto (pc' := 39) hX dX4_derive_71 (by decide) ?_
                exact gx_sub [1, 0] rfl (ih39 (k + 1) _ (by omega) (by omega) (heu.put (gM9 hM) (by decide)) (uI_qub hfr (by first | rw [hb64]; rfl | (rw [if_neg hb64]))))
        exact gx_sub [1, 0] rfl (L39 (qm (qg r n) + 1) 0 _ (by omega) (by omega) he (fun c hc => hf c (by omega)))
      · refine gx_aload_n hX 0 dX4_derive_24 rfl rfl ?_
        refine gx_get hC 9 inlX4 wf_RX4_31 rfl (gM0 hM) rfl rfl rfl rfl dX4_derive_25 rfl ?_
        refine gx_iload_n hX 1 dX4_derive_28 rfl rfl ?_
        refine gx_iconst (v := 0) hX dX4_derive_29 rfl (by decide) ?_
        refine gx_zast (i := i) hC (gM9 hM) rfl rfl rfl rfl rfl (by omega) rfl dX4_derive_30 rfl ?_
        refine gx_iinc (w := (nI (i + 1))) (lv' := [(1, .int (nI (i + 1))), (0, .ref mo)]) hX 1 dX4_derive_31 rfl rfl (nI_add _ _) (by decide) rfl ?_
        refine gx_goto (pc' := 14) hX dX4_derive_34 (by decide) ?_
        exact gx_sub [1, 0] rfl (ih14 (i + 1) _ (by omega) (by omega) (he.put (gM9 hM) (by decide)) (uI_rng (P := fun _ => 0) hf rfl))
  exact gx_sub [1, 0] rfl (L14 (n + 1) 0 τ9 (by omega) (by omega) gEq.rf (fun c hc => absurd hc (Nat.not_lt_zero c)))

set_option maxRecDepth 100000 in
set_option maxHeartbeats 4000000 in
theorem c_X4_operandValue (l : Launch) (Y : gL) (mo : Nat) (σ : gS) (r : Nat → Int32) (n : Nat) (hM : gLM Y mo) (hr : gRow Y mo σ r n) (x : Int32) (hsrc : ¬ x < 100 → qsrc (qg r n) x < 12) : gM l yX4_operandValue cX4_operandValue 3 (some .int) (gRm 4 87) Y [.ref mo, .int x] σ (gI fun v τ => σ = τ ∧ qov (qg r n) r x = v) := by
  have hr1 := hr.1
  have hr2 := hr.2.1
  have hr3 := hr.2.2
  refine gM.of (by decide) rfl ?_
  intro p e s m args below meth c hC
  have hX := hC.1
  refine gx_iload_n hX 1 dX4_operandValue_0 rfl rfl ?_
  refine gx_bipush (v := 100) hX dX4_operandValue_1 rfl (by decide) ?_
  refine gx_icmp_ge (tgt := 8) hX dX4_operandValue_3 (by decide) rfl (fun h3 => ?_) (fun h3 => ?_)
  · refine gx_aload_n hX 0 dX4_operandValue_8 rfl rfl ?_
    refine gx_aload_n hX 0 dX4_operandValue_9 rfl rfl ?_
    refine gx_iload_n hX 1 dX4_operandValue_10 rfl rfl ?_
    refine gx_callV (As := [.int x]) (st := [.ref mo]) hC (c_X4_source l Y mo σ r n hM hr x) kX4_source wm_RX4_60 rfl (gM0 hM) rfl rfl rfl rfl rfl dX4_operandValue_11 rfl (gx_ki fun r11 τ11 hq11 => ?_)
    obtain ⟨rfl, ⟨rfl, hb11⟩ | ⟨rfl, hb11⟩⟩ := hq11
    · have hx := qge100.mp h3
      refine gx_iconst (v := 4) hX dX4_operandValue_14 rfl (by decide) ?_
      refine gx_callV (As := [.int (nI (qsrc (qg r n) x)), .int 4]) (st := []) hC (c_X4_get l Y mo σ r (qsrc (qg r n) x) 4 hM hr.1 (by omega)) kX4_get wm_RX4_50 rfl (gM0 hM) rfl rfl rfl rfl rfl dX4_operandValue_15 rfl (gx_ki fun r15 τ15 hq15 => ?_)
      obtain ⟨rfl, rfl⟩ := hq15
      refine gx_istore_n (lv' := [(2, .int (r (17 + 10 * (qsrc (qg r n) x) + 4))), (0, .ref mo), (1, .int x)]) hX dX4_operandValue_18 rfl (by decide) rfl ?_
      refine gx_iload_n hX 0 dX4_operandValue_19 rfl rfl ?_
      refine gx_sipush (v := 9999) hX dX4_operandValue_20 rfl (by decide) ?_
      refine gx_icmp_le (tgt := 32) hX dX4_operandValue_23 (by decide) rfl (fun h23 => ?_) (fun h23 => ?_)
      · refine gx_iload_n hX 0 dX4_operandValue_32 rfl rfl ?_
        exact gx_iret hC dX4_operandValue_33 (⟨rfl, by unfold qov; rw [if_neg hx]; first | rw [if_pos (Int32.not_le.mp h23)] | rw [if_neg (Int32.not_lt.mpr h23)]⟩)
      · refine gx_sipush (v := 20000) hX dX4_operandValue_26 rfl (by decide) ?_
        refine gx_goto (pc' := 33) hX dX4_operandValue_29 (by decide) ?_
        exact gx_iret hC dX4_operandValue_33 (⟨rfl, by unfold qov; rw [if_neg hx]; first | rw [if_pos (Int32.not_le.mp h23)] | rw [if_neg (Int32.not_lt.mpr h23)]⟩)
    · exact absurd (hsrc (qge100.mp h3)) (by omega)
  · refine gx_iload_n hX 1 dX4_operandValue_6 rfl rfl ?_
    exact gx_iret hC dX4_operandValue_7 (⟨rfl, if_pos (Decidable.not_not.mp (fun q => h3 (qge100.mpr q)))⟩)

set_option maxRecDepth 100000 in
set_option maxHeartbeats 4000000 in
theorem c_X4_exact (l : Launch) (Y : gL) (mo : Nat) (σ : gS) (op a b : Int32) (hne : op = 3 → ¬ b = 0) : gM l yX4_exact cX4_exact 4 (some .int) (gRm 0 0) Y [.ref mo, .int op, .int a, .int b] σ (gI fun v τ => σ = τ ∧ qex3 op a b = v) := by
  refine gM.of (by decide) rfl ?_
  intro p e s m args below meth c hC
  have hX := hC.1
  refine gx_iload_n hX 1 dX4_exact_0 rfl rfl ?_
  by_cases t1_0 : op = 0
  · refine gx_tableIn (tgt := 36) hX dX4_exact_1 0 t1_0 (by decide) (by decide) rfl (by decide) ?_
    refine gx_iload_n hX 2 dX4_exact_36 rfl rfl ?_
    refine gx_iload_n hX 3 dX4_exact_37 rfl rfl ?_
    refine gx_iadd hX dX4_exact_38 rfl ?_
    exact gx_iret hC dX4_exact_39 (⟨rfl, by unfold qex3; rw [if_pos t1_0]⟩)
  by_cases t1_1 : op = 1
  · refine gx_tableIn (tgt := 40) hX dX4_exact_1 1 t1_1 (by decide) (by decide) rfl (by decide) ?_
    refine gx_iload_n hX 2 dX4_exact_40 rfl rfl ?_
    refine gx_iload_n hX 3 dX4_exact_41 rfl rfl ?_
    refine gx_isub hX dX4_exact_42 rfl ?_
    exact gx_iret hC dX4_exact_43 (⟨rfl, by unfold qex3; rw [if_neg t1_0, if_pos t1_1]⟩)
  by_cases t1_2 : op = 2
  · refine gx_tableIn (tgt := 44) hX dX4_exact_1 2 t1_2 (by decide) (by decide) rfl (by decide) ?_
    refine gx_iload_n hX 2 dX4_exact_44 rfl rfl ?_
    refine gx_iload_n hX 3 dX4_exact_45 rfl rfl ?_
    refine gx_imul hX dX4_exact_46 rfl ?_
    exact gx_iret hC dX4_exact_47 (⟨rfl, by unfold qex3; rw [if_neg t1_0, if_neg t1_1, if_pos t1_2]⟩)
  by_cases t1_3 : op = 3
  · refine gx_tableIn (tgt := 48) hX dX4_exact_1 3 t1_3 (by decide) (by decide) rfl (by decide) ?_
    refine gx_iload_n hX 2 dX4_exact_48 rfl rfl ?_
    refine gx_iload_n hX 3 dX4_exact_49 rfl rfl ?_
    refine gx_idiv hX dX4_exact_50 rfl (hne t1_3) ?_
    exact gx_iret hC dX4_exact_51 (⟨rfl, by unfold qex3; rw [if_neg t1_0, if_neg t1_1, if_neg t1_2, if_pos t1_3]⟩)
  by_cases t1_4 : op = 4
  · refine gx_tableIn (tgt := 52) hX dX4_exact_1 4 t1_4 (by decide) (by decide) rfl (by decide) ?_
    refine gx_iload_n hX 2 dX4_exact_52 rfl rfl ?_
    refine gx_iload_n hX 3 dX4_exact_53 rfl rfl ?_
    refine gx_icmp_le (tgt := 61) hX dX4_exact_54 (by decide) rfl (fun h54 => ?_) (fun h54 => ?_)
    · refine gx_iload_n hX 3 dX4_exact_61 rfl rfl ?_
      exact gx_iret hC dX4_exact_62 (⟨rfl, by unfold qex3; rw [if_neg t1_0, if_neg t1_1, if_neg t1_2, if_neg t1_3, if_pos t1_4]; first | rw [if_pos (Int32.not_le.mp h54)] | rw [if_neg (Int32.not_lt.mpr h54)]⟩)
    · refine gx_iload_n hX 2 dX4_exact_57 rfl rfl ?_
      refine gx_goto (pc' := 62) hX dX4_exact_58 (by decide) ?_
      exact gx_iret hC dX4_exact_62 (⟨rfl, by unfold qex3; rw [if_neg t1_0, if_neg t1_1, if_neg t1_2, if_neg t1_3, if_pos t1_4]; first | rw [if_pos (Int32.not_le.mp h54)] | rw [if_neg (Int32.not_lt.mpr h54)]⟩)
  refine gx_tableOut (tgt := 63) hX dX4_exact_1 (qout4 t1_0 t1_1 t1_2 t1_3 t1_4) (by decide) ?_
  refine gx_iload_n hX 2 dX4_exact_63 rfl rfl ?_
  refine gx_iload_n hX 3 dX4_exact_64 rfl rfl ?_
  refine gx_icmp_ge (tgt := 72) hX dX4_exact_65 (by decide) rfl (fun h65 => ?_) (fun h65 => ?_)
  · refine gx_iload_n hX 3 dX4_exact_72 rfl rfl ?_
    exact gx_iret hC dX4_exact_73 (⟨rfl, by unfold qex3; rw [if_neg t1_0, if_neg t1_1, if_neg t1_2, if_neg t1_3, if_neg t1_4]; first | rw [if_neg (Int32.not_lt.mpr h65)] | rw [if_pos (Int32.not_le.mp h65)]⟩)
  · refine gx_iload_n hX 2 dX4_exact_68 rfl rfl ?_
    refine gx_goto (pc' := 73) hX dX4_exact_69 (by decide) ?_
    exact gx_iret hC dX4_exact_73 (⟨rfl, by unfold qex3; rw [if_neg t1_0, if_neg t1_1, if_neg t1_2, if_neg t1_3, if_neg t1_4]; first | rw [if_neg (Int32.not_lt.mpr h65)] | rw [if_pos (Int32.not_le.mp h65)]⟩)

set_option maxRecDepth 100000 in
set_option maxHeartbeats 4000000 in
theorem c_X4_compute (l : Launch) (Y : gL) (mo : Nat) (σ : gS) (r : Nat → Int32) (n : Nat) (hM : gLM Y mo) (hr : gRow Y mo σ r n) (i : Nat) (hi : i < n) (hsl : ¬ r (17 + 10 * i + 2) < 100 → qsrc (qg r n) (r (17 + 10 * i + 2)) < 12) (hsr : ¬ r (17 + 10 * i + 3) < 100 → qsrc (qg r n) (r (17 + 10 * i + 3)) < 12) : gM l yX4_compute cX4_compute 6 (some .int) (gRm 5 109) Y [.ref mo, .int (nI i)] σ (gI fun v τ => σ = τ ∧ qcmp (qg r n) r i = v) := by
  have hr1 := hr.1
  have hr2 := hr.2.1
  have hr3 := hr.2.2
  refine gM.of (by decide) rfl ?_
  intro p e s m args below meth c hC
  have hX := hC.1
  refine gx_aload_n hX 0 dX4_compute_0 rfl rfl ?_
  refine gx_aload_n hX 0 dX4_compute_1 rfl rfl ?_
  refine gx_iload_n hX 1 dX4_compute_2 rfl rfl ?_
  refine gx_iconst (v := 2) hX dX4_compute_3 rfl (by decide) ?_
  refine gx_callV (As := [.int (nI i), .int 2]) (st := [.ref mo]) hC (c_X4_get l Y mo σ r i 2 hM hr.1 (by omega)) kX4_get wm_RX4_50 rfl (gM0 hM) rfl rfl rfl rfl rfl dX4_compute_4 rfl (gx_ki fun r4 τ4 hq4 => ?_)
  obtain ⟨rfl, rfl⟩ := hq4
  refine gx_callV (As := [.int (r (17 + 10 * i + 2))]) (st := []) hC (c_X4_operandValue l Y mo σ r n hM hr (r (17 + 10 * i + 2)) hsl) kX4_operandValue wm_RX4_89 rfl (gM0 hM) rfl rfl rfl rfl rfl dX4_compute_7 rfl (gx_ki fun r7 τ7 hq7 => ?_)
  obtain ⟨rfl, rfl⟩ := hq7
  refine gx_istore_n (lv' := [(2, .int (qov (qg r n) r (r (17 + 10 * i + 2)))), (0, .ref mo), (1, .int (nI i))]) hX dX4_compute_10 rfl (by decide) rfl ?_
  refine gx_aload_n hX 1 dX4_compute_11 rfl rfl ?_
  refine gx_aload_n hX 1 dX4_compute_12 rfl rfl ?_
  refine gx_iload_n hX 2 dX4_compute_13 rfl rfl ?_
  refine gx_iconst (v := 3) hX dX4_compute_14 rfl (by decide) ?_
  refine gx_callV (As := [.int (nI i), .int 3]) (st := [.ref mo]) hC (c_X4_get l Y mo σ r i 3 hM hr.1 (by omega)) kX4_get wm_RX4_50 rfl (gM0 hM) rfl rfl rfl rfl rfl dX4_compute_15 rfl (gx_ki fun r15 τ15 hq15 => ?_)
  obtain ⟨rfl, rfl⟩ := hq15
  refine gx_callV (As := [.int (r (17 + 10 * i + 3))]) (st := []) hC (c_X4_operandValue l Y mo σ r n hM hr (r (17 + 10 * i + 3)) hsr) kX4_operandValue wm_RX4_89 rfl (gM0 hM) rfl rfl rfl rfl rfl dX4_compute_18 rfl (gx_ki fun r18 τ18 hq18 => ?_)
  obtain ⟨rfl, rfl⟩ := hq18
  refine gx_istore_n (lv' := [(3, .int (qov (qg r n) r (r (17 + 10 * i + 3)))), (2, .int (qov (qg r n) r (r (17 + 10 * i + 2)))), (0, .ref mo), (1, .int (nI i))]) hX dX4_compute_21 rfl (by decide) rfl ?_
  refine gx_iload_n hX 1 dX4_compute_22 rfl rfl ?_
  refine gx_sipush (v := 20000) hX dX4_compute_23 rfl (by decide) ?_
  refine gx_icmp_eq (tgt := 36) hX dX4_compute_26 (by decide) rfl (fun h26 => ?_) (fun h26 => ?_)
  · refine gx_sipush (v := 20005) hX dX4_compute_36 rfl (by decide) ?_
    exact gx_iret hC dX4_compute_39 (⟨rfl, by unfold qcmp; rw [if_pos (by first | exact Or.inl h26 | exact Or.inr h33)]⟩)
  · refine gx_iload_n hX 0 dX4_compute_29 rfl rfl ?_
    refine gx_sipush (v := 20000) hX dX4_compute_30 rfl (by decide) ?_
    refine gx_icmp_ne (tgt := 40) hX dX4_compute_33 (by decide) rfl (fun h33 => ?_) (fun h33 => ?_)
    · refine gx_aload_n hX 2 dX4_compute_40 rfl rfl ?_
      refine gx_iload_n hX 3 dX4_compute_41 rfl rfl ?_
      refine gx_iconst (v := 1) hX dX4_compute_42 rfl (by decide) ?_
      refine gx_callV (As := [.int (nI i), .int 1]) (st := []) hC (c_X4_get l Y mo σ r i 1 hM hr.1 (by omega)) kX4_get wm_RX4_50 rfl (gM0 hM) rfl rfl rfl rfl rfl dX4_compute_43 rfl (gx_ki fun r43 τ43 hq43 => ?_)
      obtain ⟨rfl, rfl⟩ := hq43
      refine gx_istore (lv' := [(4, .int (r (17 + 10 * i + 1))), (3, .int (qov (qg r n) r (r (17 + 10 * i + 3)))), (2, .int (qov (qg r n) r (r (17 + 10 * i + 2)))), (0, .ref mo), (1, .int (nI i))]) hX dX4_compute_46 rfl (by decide) rfl ?_
      refine gx_iload hX 0 dX4_compute_48 rfl rfl ?_
      refine gx_iconst (v := 3) hX dX4_compute_50 rfl (by decide) ?_
      refine gx_icmp_ne (tgt := 62) hX dX4_compute_51 (by decide) rfl (fun h51 => ?_) (fun h51 => ?_)
      · refine gx_aload_n hX 3 dX4_compute_62 rfl rfl ?_
        refine gx_iload hX 0 dX4_compute_63 rfl rfl ?_
        refine gx_iload_n hX 2 dX4_compute_65 rfl rfl ?_
        refine gx_iload_n hX 1 dX4_compute_66 rfl rfl ?_
        refine gx_callV (As := [.int (r (17 + 10 * i + 1)), .int (qov (qg r n) r (r (17 + 10 * i + 2))), .int (qov (qg r n) r (r (17 + 10 * i + 3)))]) (st := []) hC (c_X4_exact l Y mo σ (r (17 + 10 * i + 1)) (qov (qg r n) r (r (17 + 10 * i + 2))) (qov (qg r n) r (r (17 + 10 * i + 3))) (by first | exact hne | (intro q; exact absurd q h51) | (intro _; exact h55))) kX4_exact wm_RX4_92 rfl (gM0 hM) rfl rfl rfl rfl rfl dX4_compute_67 rfl (gx_ki fun r67 τ67 hq67 => ?_)
        obtain ⟨rfl, rfl⟩ := hq67
        refine gx_istore (lv' := [(5, .int (qex3 (r (17 + 10 * i + 1)) (qov (qg r n) r (r (17 + 10 * i + 2))) (qov (qg r n) r (r (17 + 10 * i + 3))))), (4, .int (r (17 + 10 * i + 1))), (3, .int (qov (qg r n) r (r (17 + 10 * i + 3)))), (2, .int (qov (qg r n) r (r (17 + 10 * i + 2)))), (0, .ref mo), (1, .int (nI i))]) hX dX4_compute_70 rfl (by decide) rfl ?_
        refine gx_iload hX 0 dX4_compute_72 rfl rfl ?_
        refine gx_sipush (v := (-9999)) hX dX4_compute_74 rfl (by decide) ?_
        refine gx_sipush (v := 9999) hX dX4_compute_77 rfl (by decide) ?_
        refine gx_callS (As := [.int (qex3 (r (17 + 10 * i + 1)) (qov (qg r n) r (r (17 + 10 * i + 2))) (qov (qg r n) r (r (17 + 10 * i + 3)))), .int (-9999), .int 9999]) (st := []) hC (c_X4_in l Y σ (qex3 (r (17 + 10 * i + 1)) (qov (qg r n) r (r (17 + 10 * i + 2))) (qov (qg r n) r (r (17 + 10 * i + 3)))) (-9999) 9999) kX4_in wm_RX4_42 rfl rfl rfl rfl dX4_compute_80 rfl (gx_ki fun r80 τ80 hq80 => ?_)
        obtain ⟨rfl, ⟨rfl, hb80⟩ | ⟨rfl, hb80⟩⟩ := hq80
        · refine gx_if_eq_f (tgt := 91) hX dX4_compute_83 (by decide) rfl (by decide) ?_
          refine gx_iload hX 0 dX4_compute_86 rfl rfl ?_
          refine gx_goto (pc' := 94) hX dX4_compute_88 (by decide) ?_
          exact gx_iret hC dX4_compute_94 (⟨rfl, by unfold qcmp; rw [if_neg (by rintro (q | q); exact h26 q; exact h33 q), if_neg (by rintro ⟨q1, q2⟩; first | exact h51 q1 | exact h55 q2)]; first | rw [if_pos hb80] | rw [if_neg hb80]⟩)
        · refine gx_if_eq_t (tgt := 91) hX dX4_compute_83 (by decide) (by decide) ?_
          refine gx_sipush (v := 20006) hX dX4_compute_91 rfl (by decide) ?_
          exact gx_iret hC dX4_compute_94 (⟨rfl, by unfold qcmp; rw [if_neg (by rintro (q | q); exact h26 q; exact h33 q), if_neg (by rintro ⟨q1, q2⟩; first | exact h51 q1 | exact h55 q2)]; first | rw [if_pos hb80] | rw [if_neg hb80]⟩)
      · refine gx_iload_n hX 1 dX4_compute_54 rfl rfl ?_
        refine gx_if_ne (tgt := 62) hX dX4_compute_55 (by decide) rfl (fun h55 => ?_) (fun h55 => ?_)
        · refine gx_aload_n hX 3 dX4_compute_62 rfl rfl ?_
          refine gx_iload hX 0 dX4_compute_63 rfl rfl ?_
          refine gx_iload_n hX 2 dX4_compute_65 rfl rfl ?_
          refine gx_iload_n hX 1 dX4_compute_66 rfl rfl ?_
          refine gx_callV (As := [.int (r (17 + 10 * i + 1)), .int (qov (qg r n) r (r (17 + 10 * i + 2))), .int (qov (qg r n) r (r (17 + 10 * i + 3)))]) (st := []) hC (c_X4_exact l Y mo σ (r (17 + 10 * i + 1)) (qov (qg r n) r (r (17 + 10 * i + 2))) (qov (qg r n) r (r (17 + 10 * i + 3))) (by first | exact hne | (intro q; exact absurd q h51) | (intro _; exact h55))) kX4_exact wm_RX4_92 rfl (gM0 hM) rfl rfl rfl rfl rfl dX4_compute_67 rfl (gx_ki fun r67 τ67 hq67 => ?_)
          obtain ⟨rfl, rfl⟩ := hq67
          refine gx_istore (lv' := [(5, .int (qex3 (r (17 + 10 * i + 1)) (qov (qg r n) r (r (17 + 10 * i + 2))) (qov (qg r n) r (r (17 + 10 * i + 3))))), (4, .int (r (17 + 10 * i + 1))), (3, .int (qov (qg r n) r (r (17 + 10 * i + 3)))), (2, .int (qov (qg r n) r (r (17 + 10 * i + 2)))), (0, .ref mo), (1, .int (nI i))]) hX dX4_compute_70 rfl (by decide) rfl ?_
          refine gx_iload hX 0 dX4_compute_72 rfl rfl ?_
          refine gx_sipush (v := (-9999)) hX dX4_compute_74 rfl (by decide) ?_
          refine gx_sipush (v := 9999) hX dX4_compute_77 rfl (by decide) ?_
          refine gx_callS (As := [.int (qex3 (r (17 + 10 * i + 1)) (qov (qg r n) r (r (17 + 10 * i + 2))) (qov (qg r n) r (r (17 + 10 * i + 3)))), .int (-9999), .int 9999]) (st := []) hC (c_X4_in l Y σ (qex3 (r (17 + 10 * i + 1)) (qov (qg r n) r (r (17 + 10 * i + 2))) (qov (qg r n) r (r (17 + 10 * i + 3)))) (-9999) 9999) kX4_in wm_RX4_42 rfl rfl rfl rfl dX4_compute_80 rfl (gx_ki fun r80 τ80 hq80 => ?_)
          obtain ⟨rfl, ⟨rfl, hb80⟩ | ⟨rfl, hb80⟩⟩ := hq80
          · refine gx_if_eq_f (tgt := 91) hX dX4_compute_83 (by decide) rfl (by decide) ?_
            refine gx_iload hX 0 dX4_compute_86 rfl rfl ?_
            refine gx_goto (pc' := 94) hX dX4_compute_88 (by decide) ?_
            exact gx_iret hC dX4_compute_94 (⟨rfl, by unfold qcmp; rw [if_neg (by rintro (q | q); exact h26 q; exact h33 q), if_neg (by rintro ⟨q1, q2⟩; first | exact h51 q1 | exact h55 q2)]; first | rw [if_pos hb80] | rw [if_neg hb80]⟩)
          · refine gx_if_eq_t (tgt := 91) hX dX4_compute_83 (by decide) (by decide) ?_
            refine gx_sipush (v := 20006) hX dX4_compute_91 rfl (by decide) ?_
            exact gx_iret hC dX4_compute_94 (⟨rfl, by unfold qcmp; rw [if_neg (by rintro (q | q); exact h26 q; exact h33 q), if_neg (by rintro ⟨q1, q2⟩; first | exact h51 q1 | exact h55 q2)]; first | rw [if_pos hb80] | rw [if_neg hb80]⟩)
        · refine gx_sipush (v := 20007) hX dX4_compute_58 rfl (by decide) ?_
          exact gx_iret hC dX4_compute_61 (⟨rfl, by unfold qcmp; rw [if_neg (by rintro (q | q); exact h26 q; exact h33 q), if_pos ⟨h51, h55⟩]⟩)
    · refine gx_sipush (v := 20005) hX dX4_compute_36 rfl (by decide) ?_
      exact gx_iret hC dX4_compute_39 (⟨rfl, by unfold qcmp; rw [if_pos (by first | exact Or.inl h26 | exact Or.inr h33)]⟩)

set_option maxRecDepth 100000 in
set_option maxHeartbeats 4000000 in
theorem c_X4_versionOf (l : Launch) (Y : gL) (mo : Nat) (σ : gS) (r : Nat → Int32) (n : Nat) (hM : gLM Y mo) (hr : gRow Y mo σ r n) (x : Int32) (hsrc : ¬ x < 100 → qsrc (qg r n) x < 12) : gM l yX4_versionOf cX4_versionOf 2 (some .int) (gRm 4 87) Y [.ref mo, .int x] σ (gI fun v τ => σ = τ ∧ qvo (qg r n) r x = v) := by
  have hr1 := hr.1
  have hr2 := hr.2.1
  have hr3 := hr.2.2
  refine gM.of (by decide) rfl ?_
  intro p e s m args below meth c hC
  have hX := hC.1
  refine gx_iload_n hX 1 dX4_versionOf_0 rfl rfl ?_
  refine gx_bipush (v := 100) hX dX4_versionOf_1 rfl (by decide) ?_
  refine gx_icmp_ge (tgt := 10) hX dX4_versionOf_3 (by decide) rfl (fun h3 => ?_) (fun h3 => ?_)
  · refine gx_aload_n hX 0 dX4_versionOf_10 rfl rfl ?_
    refine gx_aload_n hX 0 dX4_versionOf_11 rfl rfl ?_
    refine gx_iload_n hX 1 dX4_versionOf_12 rfl rfl ?_
    refine gx_callV (As := [.int x]) (st := [.ref mo]) hC (c_X4_source l Y mo σ r n hM hr x) kX4_source wm_RX4_60 rfl (gM0 hM) rfl rfl rfl rfl rfl dX4_versionOf_13 rfl (gx_ki fun r13 τ13 hq13 => ?_)
    obtain ⟨rfl, ⟨rfl, hb13⟩ | ⟨rfl, hb13⟩⟩ := hq13
    · have hx := qge100.mp h3
      refine gx_iconst (v := 5) hX dX4_versionOf_16 rfl (by decide) ?_
      refine gx_callV (As := [.int (nI (qsrc (qg r n) x)), .int 5]) (st := []) hC (c_X4_get l Y mo σ r (qsrc (qg r n) x) 5 hM hr.1 (by omega)) kX4_get wm_RX4_50 rfl (gM0 hM) rfl rfl rfl rfl rfl dX4_versionOf_17 rfl (gx_ki fun r17 τ17 hq17 => ?_)
      obtain ⟨rfl, rfl⟩ := hq17
      exact gx_iret hC dX4_versionOf_20 (⟨rfl, if_neg hx⟩)
    · exact absurd (hsrc (qge100.mp h3)) (by omega)
  · refine gx_iconst (v := 0) hX dX4_versionOf_6 rfl (by decide) ?_
    refine gx_goto (pc' := 20) hX dX4_versionOf_7 (by decide) ?_
    exact gx_iret hC dX4_versionOf_20 (⟨rfl, if_pos (Decidable.not_not.mp (fun q => h3 (qge100.mpr q)))⟩)
end
section
/-! ===== what holds of every row that calls can reach: counts small, versions small, results in range ===== -/
def qrok (v : Int32) : Prop := (¬ v < -9999 ∧ ¬ 9999 < v) ∨ v = 20005 ∨ v = 20006 ∨ v = 20007
def qCI (r : Nat → Int32) (c : Nat) : Prop := (∃ v, v < 10 ∧ r (17 + 10 * c + 0) = nI v) ∧ (∃ x, x < 110 ∧ r (17 + 10 * c + 2) = nI x) ∧ (∃ y, y < 110 ∧ r (17 + 10 * c + 3) = nI y) ∧ (r (17 + 10 * c + 5) ≠ 0 → qrok (r (17 + 10 * c + 4)) ∧ (r (17 + 10 * c + 2) < 100 → r (17 + 10 * c + 6) = 0) ∧ (r (17 + 10 * c + 3) < 100 → r (17 + 10 * c + 7) = 0))
/-- versions up to q, q at most B -/
def qVI (r : Nat → Int32) (n B : Nat) : Prop := ∃ q, q ≤ B ∧ r 2 = nI q ∧ ∀ c, c < n → ∃ u, u ≤ q ∧ r (17 + 10 * c + 5) = nI u
def qRI (r : Nat → Int32) (n B : Nat) : Prop := r 0 = nI n ∧ n ≤ 12 ∧ (r 1 = 0 ∨ r 1 = 1) ∧ qVI r n B ∧ (∃ k, k ≤ 12 ∧ r 4 = nI k) ∧ ∀ c, c < n → qCI r c
theorem qVI.mono {r : Nat → Int32} {n B B' : Nat} (h : qVI r n B) (hB : B ≤ B') : qVI r n B' := by
  obtain ⟨q, h1, h2⟩ := h
  exact ⟨q, by omega, h2⟩
theorem qRI.mono {r : Nat → Int32} {n B B' : Nat} (h : qRI r n B) (hB : B ≤ B') : qRI r n B' := ⟨h.1, h.2.1, h.2.2.1, h.2.2.2.1.mono hB, h.2.2.2.2⟩
theorem qcmp_ok (g : qG) (r : Nat → Int32) (c : Nat) : qrok (qcmp g r c) := by
  unfold qcmp
  split
  · exact Or.inr (Or.inl rfl)
  · split
    · exact Or.inr (Or.inr (Or.inr rfl))
    · split
      · rename_i h
        exact Or.inl h
      · exact Or.inr (Or.inr (Or.inl rfl))
/-! what a run leaves in the row -/
section QR
variable {g : qG} {r : Nat → Int32} {c k : Nat}
theorem qr1_4 : qr1 g r c (17 + 10 * c + 4) = if r (17 + 10 * c + 5) = 0 ∨ r (17 + 10 * c + 4) ≠ qcmp g r c then qcmp g r c else r (17 + 10 * c + 4) := by
  unfold qr1
  split
  · rw [qup_off (by omega), qup_at]
  · rfl
theorem qr1_4' : qr1 g r c (17 + 10 * c + 4) = qcmp g r c := by
  rw [qr1_4]
  split
  · rfl
  · rename_i h
    exact Classical.byContradiction fun q => h (Or.inr q)
theorem qr1_5 : qr1 g r c (17 + 10 * c + 5) = if r (17 + 10 * c + 5) = 0 ∨ r (17 + 10 * c + 4) ≠ qcmp g r c then r 2 + 1 else r (17 + 10 * c + 5) := by
  unfold qr1
  split
  · rw [qup_at]
  · rfl
theorem qr1_2 : qr1 g r c 2 = if r (17 + 10 * c + 5) = 0 ∨ r (17 + 10 * c + 4) ≠ qcmp g r c then r 2 + 1 else r 2 := by
  unfold qr1
  split
  · rw [qup_off (by omega), qup_off (by omega), qup_at]
  · rfl
theorem qrun_of (hk : k < 12) (h4 : r 4 = nI k) {j : Nat} (hj : 16 < j) : qrun g r c j = qr4 g r c j := by
  rw [qrun_eq hk h4, qup_off (by omega), qup_off (by omega)]
theorem qrun_off (hk : k < 12) (h4 : r 4 = nI k) {j : Nat} (hj : 16 < j) (h4' : j ≠ 17 + 10 * c + 4) (h5 : j ≠ 17 + 10 * c + 5) (h6 : j ≠ 17 + 10 * c + 6) (h7 : j ≠ 17 + 10 * c + 7) (h8 : j ≠ 17 + 10 * c + 8) : qrun g r c j = r j := by
  rw [qrun_of hk h4 hj, qr4_off (by omega) (by omega) h4' h5 h6 h7 h8]
theorem qrun_4 (hk : k < 12) (h4 : r 4 = nI k) : qrun g r c (17 + 10 * c + 4) = qcmp g r c := by
  rw [qrun_of hk h4 (by omega)]
  unfold qr4 qr3 qr2
  rw [qup_off (by omega), qup_off (by omega), qup_off (by omega), qup_off (by omega), qr1_4']
theorem qrun_5 (hk : k < 12) (h4 : r 4 = nI k) : qrun g r c (17 + 10 * c + 5) = qr1 g r c (17 + 10 * c + 5) := by
  rw [qrun_of hk h4 (by omega)]
  unfold qr4 qr3 qr2
  rw [qup_off (by omega), qup_off (by omega), qup_off (by omega), qup_off (by omega)]
theorem qrun_6 (hk : k < 12) (h4 : r 4 = nI k) : qrun g r c (17 + 10 * c + 6) = qvo g (qr1 g r c) (r (17 + 10 * c + 2)) := by
  rw [qrun_of hk h4 (by omega)]
  unfold qr4 qr3
  rw [qup_off (by omega), qup_off (by omega), qup_off (by omega)]
  unfold qr2
  rw [qup_at]
theorem qrun_7 (hk : k < 12) (h4 : r 4 = nI k) : qrun g r c (17 + 10 * c + 7) = qvo g (qr2 g r c) (r (17 + 10 * c + 3)) := by
  rw [qrun_of hk h4 (by omega)]
  unfold qr4
  rw [qup_off (by omega), qup_off (by omega)]
  unfold qr3
  rw [qup_at]
theorem qrun_2 (hk : k < 12) (h4 : r 4 = nI k) : qrun g r c 2 = qr1 g r c 2 := by
  rw [qrun_eq hk h4, qup_off (by omega), qup_off (by omega)]
  unfold qr4 qr3 qr2
  rw [qup_off (by omega), qup_off (by omega), qup_off (by omega), qup_off (by omega)]
theorem qrun_l (hk : k < 12) (h4 : r 4 = nI k) : qrun g r c 4 = nI (k + 1) := by rw [qrun_eq hk h4, qup_at]
theorem qrun_01 (hk : k < 12) (h4 : r 4 = nI k) {j : Nat} (hj : j < 2) : qrun g r c j = r j := by
  rw [qrun_eq hk h4, qup_off (by omega), qup_off (by omega), qr4_off (by omega) (by omega) (by omega) (by omega) (by omega) (by omega) (by omega)]
/-- a source's version, when another cell is run -/
theorem qvo_r1 {x : Int32} (h : ¬ x < 100 → qsrc g x ≠ c) : qvo g (qr1 g r c) x = qvo g r x := by
  unfold qvo
  split
  · rfl
  · rename_i hx
    have := h hx
    exact qr1_off (by omega) (by omega) (by omega)
theorem qvo_r2 {x : Int32} (h : ¬ x < 100 → qsrc g x ≠ c) : qvo g (qr2 g r c) x = qvo g r x := by
  unfold qvo
  split
  · rfl
  · rename_i hx
    have := h hx
    exact qr2_off (by omega) (by omega) (by omega) (by omega)
theorem qvo_run (hk : k < 12) (h4 : r 4 = nI k) {x : Int32} (h : ¬ x < 100 → qsrc g x ≠ c) : qvo g (qrun g r c) x = qvo g r x := by
  unfold qvo
  split
  · rfl
  · rename_i hx
    have := h hx
    exact qrun_off hk h4 (by omega) (by omega) (by omega) (by omega) (by omega) (by omega)
theorem qVI_run {n B : Nat} (hB : B < 2 ^ 30) (hk : k < 12) (h4 : r 4 = nI k) (h : qVI r n B) : qVI (qrun g r c) n (B + 1) := by
  obtain ⟨q, h1, h2, h3⟩ := h
  by_cases hc : r (17 + 10 * c + 5) = 0 ∨ r (17 + 10 * c + 4) ≠ qcmp g r c
  · refine ⟨q + 1, by omega, ?_, fun d hd => ?_⟩
    · rw [qrun_2 hk h4, qr1_2, if_pos hc, h2, nI_1]
    · by_cases e : d = c
      · subst e
        exact ⟨q + 1, Nat.le_refl _, by rw [qrun_5 hk h4, qr1_5, if_pos hc, h2, nI_1]⟩
      · obtain ⟨u, hu, hv⟩ := h3 d hd
        exact ⟨u, by omega, by rw [qrun_off hk h4 (by omega) (by omega) (by omega) (by omega) (by omega) (by omega)]; exact hv⟩
  · refine ⟨q, by omega, ?_, fun d hd => ?_⟩
    · rw [qrun_2 hk h4, qr1_2, if_neg hc]
      exact h2
    · obtain ⟨u, hu, hv⟩ := h3 d hd
      by_cases e : d = c
      · subst e
        exact ⟨u, hu, by rw [qrun_5 hk h4, qr1_5, if_neg hc]; exact hv⟩
      · exact ⟨u, hu, by rw [qrun_off hk h4 (by omega) (by omega) (by omega) (by omega) (by omega) (by omega)]; exact hv⟩
theorem qCI_run {d : Nat} (hk : k < 12) (h4 : r 4 = nI k) (h : qCI r d) : qCI (qrun g r c) d := by
  obtain ⟨h1, h2, h3, h5⟩ := h
  have e0 : qrun g r c (17 + 10 * d + 0) = r (17 + 10 * d + 0) := qrun_off hk h4 (by omega) (by omega) (by omega) (by omega) (by omega) (by omega)
  have e2 : qrun g r c (17 + 10 * d + 2) = r (17 + 10 * d + 2) := qrun_off hk h4 (by omega) (by omega) (by omega) (by omega) (by omega) (by omega)
  have e3 : qrun g r c (17 + 10 * d + 3) = r (17 + 10 * d + 3) := qrun_off hk h4 (by omega) (by omega) (by omega) (by omega) (by omega) (by omega)
  unfold qCI
  rw [e0, e2, e3]
  refine ⟨h1, h2, h3, ?_⟩
  by_cases e : d = c
  · subst e
    intro _
    rw [qrun_4 hk h4, qrun_6 hk h4, qrun_7 hk h4]
    exact ⟨qcmp_ok _ _ _, fun q => if_pos q, fun q => if_pos q⟩
  · rw [qrun_off hk h4 (by omega) (by omega) (by omega) (by omega) (by omega) (by omega), qrun_off hk h4 (by omega) (by omega) (by omega) (by omega) (by omega) (by omega), qrun_off hk h4 (by omega) (by omega) (by omega) (by omega) (by omega) (by omega), qrun_off hk h4 (by omega) (by omega) (by omega) (by omega) (by omega) (by omega)]
    exact h5
theorem qver_pos {B u : Nat} {v : Int32} (hB : B < 2 ^ 31) (hu : u ≤ B) (hv : v = nI u) : 0 < v ↔ v ≠ 0 := by
  subst hv
  rw [← nI_0, nI_ltI (by omega) (by omega), Ne, nI_eq (by omega) (by omega)]
  omega
/-- a run cell is fresh, when its sources are -/
theorem qfn_run {n B : Nat} {fr : Nat → Bool} (hB : B < 2 ^ 30) (hk : k < 12) (h4 : r 4 = nI k) (hV : qVI r n B) (hc : c < n) (hsl : ¬ r (17 + 10 * c + 2) < 100 → qsrc g (r (17 + 10 * c + 2)) ≠ c ∧ fr (qsrc g (r (17 + 10 * c + 2))) = true) (hsr : ¬ r (17 + 10 * c + 3) < 100 → qsrc g (r (17 + 10 * c + 3)) ≠ c ∧ fr (qsrc g (r (17 + 10 * c + 3))) = true) : qfn g (qrun g r c) fr c = true := by
  have e2 : qrun g r c (17 + 10 * c + 2) = r (17 + 10 * c + 2) := qrun_off hk h4 (by omega) (by omega) (by omega) (by omega) (by omega) (by omega)
  have e3 : qrun g r c (17 + 10 * c + 3) = r (17 + 10 * c + 3) := qrun_off hk h4 (by omega) (by omega) (by omega) (by omega) (by omega) (by omega)
  have kn : ∀ (x s : Int32), (¬ x < 100 → qsrc g x ≠ c ∧ fr (qsrc g x) = true) → s = qvo g r x → qkn g (qrun g r c) fr x s = true := by
    intro x s hx hs
    unfold qkn
    by_cases hl : x < 100
    · rw [decide_eq_true hl]
      rfl
    · obtain ⟨h1, h2⟩ := hx hl
      have e5 : qrun g r c (17 + 10 * qsrc g x + 5) = r (17 + 10 * qsrc g x + 5) := qrun_off hk h4 (by omega) (by omega) (by omega) (by omega) (by omega) (by omega)
      rw [h2, e5, hs]
      unfold qvo
      rw [if_neg hl]
      simp
  obtain ⟨q, h1, h2, h3⟩ := qVI_run (g := g) (c := c) hB hk h4 hV
  obtain ⟨u, hu, hv⟩ := h3 c hc
  have hz : qrun g r c (17 + 10 * c + 5) ≠ 0 := by
    obtain ⟨q0, g1, g2, g3⟩ := hV
    rw [qrun_5 hk h4, qr1_5]
    split
    · rw [g2, nI_1]
      exact nI_ne0 (by omega) (by omega)
    · rename_i hh
      exact fun q => hh (Or.inl q)
  unfold qfn
  rw [decide_eq_true ((qver_pos (B := B + 1) (by omega) (by omega) hv).mpr hz), e2, e3, kn _ _ hsl (by rw [qrun_6 hk h4, qvo_r1 (fun h => (hsl h).1)]), kn _ _ hsr (by rw [qrun_7 hk h4, qvo_r2 (fun h => (hsr h).1)])]
  rfl
end QR
theorem qfn_congr {g : qG} {r : Nat → Int32} {f1 f2 : Nat → Bool} {c : Nat} (h2 : ¬ r (17 + 10 * c + 2) < 100 → f1 (qsrc g (r (17 + 10 * c + 2))) = f2 (qsrc g (r (17 + 10 * c + 2)))) (h3 : ¬ r (17 + 10 * c + 3) < 100 → f1 (qsrc g (r (17 + 10 * c + 3))) = f2 (qsrc g (r (17 + 10 * c + 3)))) : qfn g r f1 c = qfn g r f2 c := by
  have kn : ∀ (x s : Int32), (¬ x < 100 → f1 (qsrc g x) = f2 (qsrc g x)) → qkn g r f1 x s = qkn g r f2 x s := by
    intro x s h
    unfold qkn
    by_cases hl : x < 100
    · rw [decide_eq_true hl]
      rfl
    · rw [h hl]
  unfold qfn
  rw [kn _ _ h2, kn _ _ h3]
/-! ===== the run order gone through ===== -/
def qcl (g : qG) (set : Int32) : Prop := ∀ c s, c < qn g → (qsrc g (qL g c) = s ∨ qsrc g (qR g c) = s) → s < 12 → qt set c = true → qt set s = true
def qWI (g : qG) (r0 : Nat → Int32) (n B : Nat) (set : Int32) (k : Nat) (rk : Nat → Int32) (fk : Nat → Bool) : Prop :=
  qg rk n = g ∧ rk 0 = nI n ∧ rk 1 = r0 1 ∧ qVI rk n (B + k) ∧ (∀ c, c < n → qCI rk c) ∧ (∃ j, j ≤ k ∧ rk 4 = nI j) ∧ (∀ j, j < k → qt set (qo g j) = true → fk (qo g j) = true) ∧ (∀ c, fk c = true → ∃ j, j < k ∧ qo g j = c) ∧ qfr g rk k = fk
theorem qfr_same {g : qG} {n : Nat} (hg : qn g = n) (hn : n ≤ 12) {r1 r2 : Nat → Int32} {c0 k : Nat} (hk : ∀ j, j ≤ k → qo g j < n) (hc : c0 = qo g k) (hg1 : qg r1 n = g) (h : ∀ d, d < n → d ≠ c0 → (r2 (17 + 10 * d + 2) = r1 (17 + 10 * d + 2) ∧ r2 (17 + 10 * d + 3) = r1 (17 + 10 * d + 3) ∧ r2 (17 + 10 * d + 5) = r1 (17 + 10 * d + 5) ∧ r2 (17 + 10 * d + 6) = r1 (17 + 10 * d + 6) ∧ r2 (17 + 10 * d + 7) = r1 (17 + 10 * d + 7))) : ∀ j, j ≤ k → qfr g r2 j = qfr g r1 j
  | 0, _ => rfl
  | j + 1, hj => by
    have ih := qfr_same hg hn hk hc hg1 h j (by omega)
    show qub (qfr g r2 j) (qo g j) (qfn g r2 (qfr g r2 j) (qo g j)) = qub (qfr g r1 j) (qo g j) (qfn g r1 (qfr g r1 j) (qo g j))
    rw [ih]
    congr 1
    have hjn : qo g j < n := hk j (by omega)
    have hjn2 : qo g j < qn g := by rw [hg]; exact hjn
    have hkn2 : qo g k < qn g := by rw [hg]; exact hk k (Nat.le_refl k)
    have hne : qo g j ≠ c0 := by rw [hc]; exact qo_ne (by omega) (by omega) hkn2
    obtain ⟨a2, a3, a5, a6, a7⟩ := h (qo g j) hjn hne
    have eL : qL g (qo g j) = r1 (17 + 10 * qo g j + 2) := by rw [← hg1]; rfl
    have eR : qR g (qo g j) = r1 (17 + 10 * qo g j + 3) := by rw [← hg1]; rfl
    have src : ∀ x, (x = qL g (qo g j) ∨ x = qR g (qo g j)) → ¬ x < 100 → r2 (17 + 10 * qsrc g x + 5) = r1 (17 + 10 * qsrc g x + 5) := by
      intro x hx hl
      have hw := qw_src (g := g) (by omega) hjn2 (qo_w hjn2)
      have hs : qsrc g x < 12 := by
        rcases hx with rfl | rfl
        · exact hw.1 hl
        · exact hw.2 hl
      obtain ⟨i, hi, he⟩ := qo_dep (by omega) hjn2 hx hs
      have h1 := qsrc_lt (g := g) (by omega) hs
      have h2 : qsrc g x ≠ c0 := by
        rw [← he, hc]
        exact qo_ne (by omega) (by omega) hkn2
      exact (h _ (by omega) h2).2.2.1
    have kn : ∀ (x s : Int32), (x = qL g (qo g j) ∨ x = qR g (qo g j)) → qkn g r2 (qfr g r1 j) x s = qkn g r1 (qfr g r1 j) x s := by
      intro x s hx
      unfold qkn
      by_cases hl : x < 100
      · rw [decide_eq_true hl]
        rfl
      · rw [src x hx hl]
    unfold qfn
    rw [a2, a3, a5, a6, a7, kn _ _ (Or.inl eL.symm), kn _ _ (Or.inr eR.symm)]
theorem qwk_inv {r0 : Nat → Int32} {n B : Nat} {set : Int32} (hn : n ≤ 12) (hB : B + 12 < 2 ^ 30) (h : qRI r0 n B) (h4 : r0 4 = 0) (hcl : qcl (qg r0 n) set) : ∀ k, k ≤ qm (qg r0 n) → qWI (qg r0 n) r0 n B set k (qwk (qg r0 n) set r0 k).1 (qwk (qg r0 n) set r0 k).2
  | 0, _ => ⟨rfl, h.1, rfl, h.2.2.2.1, h.2.2.2.2.2, ⟨0, Nat.le_refl 0, h4⟩, fun j hj => absurd hj (Nat.not_lt_zero j), fun c hc => absurd (show false = true from hc) Bool.false_ne_true, rfl⟩
  | k + 1, hk => by
    have ih := qwk_inv hn hB h h4 hcl k (by omega)
    have hm := qm_le (qg r0 n)
    have hgn : qn (qg r0 n) = n := rfl
    have hall : ∀ j, j ≤ k → qo (qg r0 n) j < n := fun j hj => qm_lt (g := qg r0 n) (by omega)
    rw [show qwk (qg r0 n) set r0 (k + 1) = (if qfn (qg r0 n) (qwk (qg r0 n) set r0 k).1 (qwk (qg r0 n) set r0 k).2 (qo (qg r0 n) k) = true then ((qwk (qg r0 n) set r0 k).1, qub (qwk (qg r0 n) set r0 k).2 (qo (qg r0 n) k) true) else if qt set (qo (qg r0 n) k) = true then (qrun (qg r0 n) (qwk (qg r0 n) set r0 k).1 (qo (qg r0 n) k), qub (qwk (qg r0 n) set r0 k).2 (qo (qg r0 n) k) true) else ((qwk (qg r0 n) set r0 k).1, qub (qwk (qg r0 n) set r0 k).2 (qo (qg r0 n) k) false)) from rfl]
    generalize qwk (qg r0 n) set r0 k = w at ih ⊢
    obtain ⟨rk, fk⟩ := w
    generalize hge : qg r0 n = g at *
    dsimp only at ih ⊢
    obtain ⟨i1, i2, i3, i4, i5, ⟨j0, hj0, i6⟩, i7, i8, i9⟩ := ih
    have hok : qo g k < n := hall k (Nat.le_refl k)
    have hok2 : qo g k < qn g := by omega
    have c7 : ∀ b : Bool, (qt set (qo g k) = true → b = true) → ∀ j, j < k + 1 → qt set (qo g j) = true → qub fk (qo g k) b (qo g j) = true := by
      intro b hb j hj hs
      by_cases e : j = k
      · subst e
        unfold qub
        rw [if_pos rfl]
        exact hb hs
      · have hne : qo g j ≠ qo g k := qo_ne (by omega) (by omega) hok2
        unfold qub
        rw [if_neg hne]
        exact i7 j (by omega) hs
    have c8 : ∀ b : Bool, ∀ c, qub fk (qo g k) b c = true → ∃ j, j < k + 1 ∧ qo g j = c := by
      intro b c hc
      unfold qub at hc
      split at hc
      · rename_i e
        exact ⟨k, by omega, e.symm⟩
      · obtain ⟨j, hj, he⟩ := i8 c hc
        exact ⟨j, by omega, he⟩
    by_cases hf : qfn g rk fk (qo g k) = true
    · rw [if_pos hf]
      refine ⟨i1, i2, i3, i4.mono (by omega), i5, ⟨j0, by omega, i6⟩, c7 true (fun _ => rfl), c8 true, ?_⟩
      show qub (qfr g rk k) (qo g k) (qfn g rk (qfr g rk k) (qo g k)) = _
      rw [i9, hf]
    · rw [if_neg hf]
      by_cases hs : qt set (qo g k) = true
      · rw [if_pos hs]
        have hj12 : j0 < 12 := by omega
        have eL : rk (17 + 10 * qo g k + 2) = qL g (qo g k) := by rw [← i1]; rfl
        have eR : rk (17 + 10 * qo g k + 3) = qR g (qo g k) := by rw [← i1]; rfl
        have hw := qw_src (g := g) (by omega) hok2 (qo_w hok2)
        have hself := qw_self (g := g) (by omega) hok2 (qo_w hok2)
        have hfr : ∀ x, (x = qL g (qo g k) ∨ x = qR g (qo g k)) → ¬ x < 100 → fk (qsrc g x) = true := by
          intro x hx hl
          have hs1 : qsrc g x < 12 := by
            rcases hx with rfl | rfl
            · exact hw.1 hl
            · exact hw.2 hl
          obtain ⟨i, hi, he⟩ := qo_dep (by omega) hok2 hx hs1
          have h2 := hcl (qo g k) (qsrc g x) (by omega) (by rcases hx with rfl | rfl; exact Or.inl rfl; exact Or.inr rfl) hs1 hs
          rw [← he] at h2 ⊢
          exact i7 i hi h2
        have hfn := qfn_run (g := g) (c := qo g k) (fr := fk) (B := B + k) (by omega) hj12 i6 i4 hok (by rw [eL]; exact fun hl => ⟨hself.1, hfr _ (Or.inl rfl) hl⟩) (by rw [eR]; exact fun hl => ⟨hself.2, hfr _ (Or.inr rfl) hl⟩)
        show qWI g r0 n B set (k + 1) (qrun g rk (qo g k)) (qub fk (qo g k) true)
        refine ⟨by rw [qg_run hj12 i6]; exact i1, by rw [qrun_01 hj12 i6 (by omega)]; exact i2, by rw [qrun_01 hj12 i6 (by omega)]; exact i3, qVI_run (B := B + k) (by omega) hj12 i6 i4, fun c hc => qCI_run hj12 i6 (i5 c hc), ⟨j0 + 1, by omega, qrun_l hj12 i6⟩, c7 true (fun _ => rfl), c8 true, ?_⟩
        show qub (qfr g (qrun g rk (qo g k)) k) (qo g k) (qfn g (qrun g rk (qo g k)) (qfr g (qrun g rk (qo g k)) k) (qo g k)) = _
        rw [qfr_same (by omega) hn hall rfl i1 (fun d hd hne => ⟨qrun_off hj12 i6 (by omega) (by omega) (by omega) (by omega) (by omega) (by omega), qrun_off hj12 i6 (by omega) (by omega) (by omega) (by omega) (by omega) (by omega), qrun_off hj12 i6 (by omega) (by omega) (by omega) (by omega) (by omega) (by omega), qrun_off hj12 i6 (by omega) (by omega) (by omega) (by omega) (by omega) (by omega), qrun_off hj12 i6 (by omega) (by omega) (by omega) (by omega) (by omega) (by omega)⟩) k (Nat.le_refl k), i9, hfn]
      · rw [if_neg hs]
        refine ⟨i1, i2, i3, i4.mono (by omega), i5, ⟨j0, by omega, i6⟩, c7 false (fun q => absurd q hs), c8 false, ?_⟩
        show qub (qfr g rk k) (qo g k) (qfn g rk (qfr g rk k) (qo g k)) = _
        rw [i9]
        congr 1
        cases e : qfn g rk fk (qo g k)
        · rfl
        · exact absurd e hf
theorem qrt_inv {r0 : Nat → Int32} {n B : Nat} {set : Int32} (hn : n ≤ 12) (hB : B + 12 < 2 ^ 30) (h : qRI r0 n B) (h4 : r0 4 = 0) (hcl : qcl (qg r0 n) set) : qRI (qrt r0 n set) n (B + 12) ∧ qg (qrt r0 n set) n = qg r0 n ∧ qF (qg r0 n) (qrt r0 n set) = (qwk (qg r0 n) set r0 (qm (qg r0 n))).2 := by
  have hm := qm_le (qg r0 n)
  have hgn : qn (qg r0 n) = n := rfl
  obtain ⟨i1, i2, i3, i4, i5, ⟨j0, hj0, i6⟩, i7, i8, i9⟩ := qwk_inv hn hB h h4 hcl (qm (qg r0 n)) (Nat.le_refl _)
  exact ⟨⟨i2, hn, by rw [show qrt r0 n set 1 = r0 1 from i3]; exact h.2.2.1, i4.mono (by omega), ⟨j0, by omega, i6⟩, i5⟩, i1, i9⟩
theorem qcl_all (g : qG) (hn : qn g ≤ 12) : qcl g (-1) := fun c s _ _ hs _ => qt_neg1 (by omega)
theorem qwk_f {g : qG} {set : Int32} {r : Nat → Int32} {k : Nat} (h : qfn g (qwk g set r k).1 (qwk g set r k).2 (qo g k) = true) : qwk g set r (k + 1) = ((qwk g set r k).1, qub (qwk g set r k).2 (qo g k) true) := if_pos h
theorem qwk_r {g : qG} {set : Int32} {r : Nat → Int32} {k : Nat} (h : ¬ qfn g (qwk g set r k).1 (qwk g set r k).2 (qo g k) = true) (hs : qt set (qo g k) = true) : qwk g set r (k + 1) = (qrun g (qwk g set r k).1 (qo g k), qub (qwk g set r k).2 (qo g k) true) := (if_neg h).trans (if_pos hs)
theorem qwk_n {g : qG} {set : Int32} {r : Nat → Int32} {k : Nat} (h : ¬ qfn g (qwk g set r k).1 (qwk g set r k).2 (qo g k) = true) (hs : ¬ qt set (qo g k) = true) : qwk g set r (k + 1) = ((qwk g set r k).1, qub (qwk g set r k).2 (qo g k) false) := (if_neg h).trans (if_neg hs)
theorem uI_qubp {σ : gS} {a c x : Nat} {v : Int32} {f : Nat → Bool} {b : Bool} (h : x ≠ c → σ.1 a x = if f x = true then 1 else 0) (hv : v = if b = true then 1 else 0) : (uI σ a c v).1 a x = if qub f c b x = true then 1 else 0 := by
  unfold qub
  by_cases e : x = c
  · subst e
    rw [uI_at, if_pos rfl]
    exact hv
  · rw [uI_off e, if_neg e]
    exact h e
theorem uI_01 {σ : gS} {a c n : Nat} {v : Int32} (h : ∀ x, x < n → σ.1 a x = 0 ∨ σ.1 a x = 1) (hv : v = 0 ∨ v = 1) (x : Nat) (hx : x < n) : (uI σ a c v).1 a x = 0 ∨ (uI σ a c v).1 a x = 1 := by
  by_cases e : x = c
  · subst e
    rw [uI_at]
    exact hv
  · rw [uI_off e]
    exact h x hx
theorem q01_fr {v : Int32} (h : v = 0 ∨ v = 1) : v = if decide (v = 1) = true then 1 else 0 := by
  rcases h with rfl | rfl <;> rfl
theorem q01_b {v : Int32} {b : Bool} (h : v = if b = true then 1 else 0) : decide (v = 1) = b := by
  cases b <;> subst h <;> rfl
/-- fresh now, by what the array holds and by what is meant -/
theorem qfn_arr {g : qG} {n : Nat} {r : Nat → Int32} {F : Nat → Int32} {fk : Nat → Bool} {k : Nat} (hn : n ≤ 12) (hg : qn g = n) (hg1 : qg r n = g) (hok : qo g k < n) (h : ∀ j, j < k → F (qo g j) = if fk (qo g j) = true then 1 else 0) : qfn g r (fun d => decide (F d = 1)) (qo g k) = qfn g r fk (qo g k) := by
  have hok2 : qo g k < qn g := by omega
  have eL : r (17 + 10 * qo g k + 2) = qL g (qo g k) := by rw [← hg1]; rfl
  have eR : r (17 + 10 * qo g k + 3) = qR g (qo g k) := by rw [← hg1]; rfl
  have hw := qw_src (g := g) (by omega) hok2 (qo_w hok2)
  have key : ∀ x, (x = qL g (qo g k) ∨ x = qR g (qo g k)) → ¬ x < 100 → decide (F (qsrc g x) = 1) = fk (qsrc g x) := by
    intro x hx hl
    have hs : qsrc g x < 12 := by
      rcases hx with rfl | rfl
      · exact hw.1 hl
      · exact hw.2 hl
    obtain ⟨j, hj, he⟩ := qo_dep (by omega) hok2 hx hs
    rw [← he]
    exact q01_b (h j hj)
  exact qfn_congr (fun hl => key _ (Or.inl eL) hl) (fun hl => key _ (Or.inr eR) hl)
theorem qsrc_row {g : qG} {n : Nat} {r : Nat → Int32} {c : Nat} (hn : n ≤ 12) (hg : qn g = n) (hg1 : qg r n = g) (hc : c < n) (hw : qw g c = 0) : (¬ r (17 + 10 * c + 2) < 100 → qsrc g (r (17 + 10 * c + 2)) < 12) ∧ (¬ r (17 + 10 * c + 3) < 100 → qsrc g (r (17 + 10 * c + 3)) < 12) := by
  have eL : r (17 + 10 * c + 2) = qL g c := by rw [← hg1]; rfl
  have eR : r (17 + 10 * c + 3) = qR g c := by rw [← hg1]; rfl
  rw [eL, eR]
  exact qw_src (g := g) (by omega) (by omega) hw
/-- the cell that was just run is fresh -/
theorem qfn_after {r0 : Nat → Int32} {n B k : Nat} {set : Int32} (hn : n ≤ 12) (hB : B + 12 < 2 ^ 30) (h : qRI r0 n B) (h4 : r0 4 = 0) (hcl : qcl (qg r0 n) set) (hk : k < qm (qg r0 n)) (hf : ¬ qfn (qg r0 n) (qwk (qg r0 n) set r0 k).1 (qwk (qg r0 n) set r0 k).2 (qo (qg r0 n) k) = true) (hs : qt set (qo (qg r0 n) k) = true) (hg1 : qg (qwk (qg r0 n) set r0 k).1 n = qg r0 n) : qfn (qg r0 n) (qrun (qg (qwk (qg r0 n) set r0 k).1 n) (qwk (qg r0 n) set r0 k).1 (qo (qg r0 n) k)) (qwk (qg r0 n) set r0 k).2 (qo (qg r0 n) k) = true := by
  have hm := qm_le (qg r0 n)
  have hgn : qn (qg r0 n) = n := rfl
  have hI := qwk_inv hn hB h h4 hcl k (by omega)
  have hok : qo (qg r0 n) k < n := qm_lt hk
  have hok2 : qo (qg r0 n) k < qn (qg r0 n) := hok
  obtain ⟨i1, i2, i3, i4, i5, ⟨j0, hj0, i6⟩, i7, i8, i9⟩ := hI
  have hw := qw_src (g := qg r0 n) hn hok2 (qo_w hok2)
  have hself := qw_self (g := qg r0 n) hn hok2 (qo_w hok2)
  have eL : (qwk (qg r0 n) set r0 k).1 (17 + 10 * qo (qg r0 n) k + 2) = qL (qg r0 n) (qo (qg r0 n) k) := congrFun (congrArg (fun z : qG => z.2.1) i1) _
  have eR : (qwk (qg r0 n) set r0 k).1 (17 + 10 * qo (qg r0 n) k + 3) = qR (qg r0 n) (qo (qg r0 n) k) := congrFun (congrArg (fun z : qG => z.2.2.1) i1) _
  have hfr : ∀ x, (x = qL (qg r0 n) (qo (qg r0 n) k) ∨ x = qR (qg r0 n) (qo (qg r0 n) k)) → ¬ x < 100 → (qwk (qg r0 n) set r0 k).2 (qsrc (qg r0 n) x) = true := by
    intro x hx hl
    have hs1 : qsrc (qg r0 n) x < 12 := by
      rcases hx with rfl | rfl
      · exact hw.1 hl
      · exact hw.2 hl
    obtain ⟨i, hi, he⟩ := qo_dep (g := qg r0 n) hn hok2 hx hs1
    have h2 := hcl (qo (qg r0 n) k) (qsrc (qg r0 n) x) hok2 (by rcases hx with rfl | rfl; exact Or.inl rfl; exact Or.inr rfl) hs1 hs
    rw [← he] at h2 ⊢
    exact i7 i hi h2
  rw [hg1]
  exact qfn_run (B := B + k) (by omega) (show j0 < 12 by omega) i6 i4 hok (by rw [eL]; exact fun hl => ⟨hself.1, hfr _ (Or.inl rfl) hl⟩) (by rw [eR]; exact fun hl => ⟨hself.2, hfr _ (Or.inr rfl) hl⟩)
end
section
set_option maxRecDepth 100000 in
set_option maxHeartbeats 4000000 in
theorem c_X4_runOne (l : Launch) (Y : gL) (mo : Nat) (σ : gS) (r : Nat → Int32) (n : Nat) (hM : gLM Y mo) (hr : gRow Y mo σ r n) (i k : Nat) (hi : i < n) (hk : k < 12) (h4 : r 4 = nI k) (hsl : ¬ r (17 + 10 * i + 2) < 100 → qsrc (qg r n) (r (17 + 10 * i + 2)) < 12) (hsr : ¬ r (17 + 10 * i + 3) < 100 → qsrc (qg r n) (r (17 + 10 * i + 3)) < 12) : gM l yX4_runOne cX4_runOne 3 none (gRm 6 134) Y [.ref mo, .int (nI i)] σ (gV fun τ => gEq Y [16] σ τ ∧ gRow Y mo τ (qrun (qg r n) r i) n) := by
  have hq1 := hr.1
  have hq2 := hr.2.1
  have hq3 := hr.2.2
  refine gM.of (by decide) rfl ?_
  intro p e s m args below meth c hC
  have hX := hC.1
  have J62 : ∀ (τ : gS), (gEq Y [16] σ τ) → (gRow Y mo τ (qr1 (qg r n) r i) n) → gG p l e (gRm 6 134) s m args below meth c Y (gV fun τ => gEq Y [16] σ τ ∧ gRow Y mo τ (qrun (qg r n) r i) n) τ 62 [(0, .ref mo), (1, .int (nI i))] [] := by
    intro τ he hrt
    refine gx_aload_n hX 0 dX4_runOne_62 rfl rfl ?_
    refine gx_get hC 0 inlX4 wf_RX4_7 rfl (gM0 hM) rfl rfl rfl rfl dX4_runOne_63 rfl ?_
    refine gx_iload_n hX 1 dX4_runOne_66 rfl rfl ?_
    refine gx_bipush (v := 6) hX dX4_runOne_67 rfl (by decide) ?_
    refine gx_callS (As := [.int (nI i), .int 6]) (st := [.ref (gF Y mo 0)]) hC (c_X4_at l Y τ i 6) kX4_at wm_RX4_38 rfl rfl rfl rfl dX4_runOne_69 rfl (gx_ki fun r69 τ69 hq69 => ?_)
    obtain ⟨rfl, rfl⟩ := hq69
    refine gx_aload_n hX 0 dX4_runOne_72 rfl rfl ?_
    refine gx_aload_n hX 0 dX4_runOne_73 rfl rfl ?_
    refine gx_iload_n hX 1 dX4_runOne_74 rfl rfl ?_
    refine gx_iconst (v := 2) hX dX4_runOne_75 rfl (by decide) ?_
    refine gx_callV (As := [.int (nI i), .int 2]) (st := [.ref mo, .int (nI (17 + 10 * i + 6)), .ref (gF Y mo 0)]) hC (c_X4_get l Y mo τ (qr1 (qg r n) r i) i 2 hM hrt.1 (by omega)) kX4_get wm_RX4_50 rfl (gM0 hM) rfl rfl rfl rfl rfl dX4_runOne_76 rfl (gx_ki fun r76 τ76 hq76 => ?_)
    obtain ⟨rfl, rfl⟩ := hq76
    refine gx_topi (b := (r (17 + 10 * i + 2))) (qr1_off (by omega) (by omega) (by omega)) ?_
    refine gx_callV (As := [.int (r (17 + 10 * i + 2))]) (st := [.int (nI (17 + 10 * i + 6)), .ref (gF Y mo 0)]) hC (c_X4_versionOf l Y mo τ (qr1 (qg r n) r i) n hM hrt (r (17 + 10 * i + 2)) (by rw [qg_r1]; exact hsl)) kX4_versionOf wm_RX4_99 rfl (gM0 hM) rfl rfl rfl rfl rfl dX4_runOne_79 rfl (gx_ki fun r79 τ79 hq79 => ?_)
    obtain ⟨rfl, rfl⟩ := hq79
    refine gx_topi (b := (qvo (qg r n) (qr1 (qg r n) r i) (r (17 + 10 * i + 2)))) (by rw [qg_r1]) ?_
    refine gx_iast (i := 17 + 10 * i + 6) hC (gM1 hM) rfl rfl rfl rfl (by omega) rfl dX4_runOne_82 rfl ?_
    have hr2 : gRow Y mo (uI τ (gF Y mo 0) (17 + 10 * i + 6) (qvo (qg r n) (qr1 (qg r n) r i) (r (17 + 10 * i + 2)))) (qr2 (qg r n) r i) n := hrt.now (by omega)
    refine gx_aload_n hX 0 dX4_runOne_83 rfl rfl ?_
    refine gx_get hC 0 inlX4 wf_RX4_7 rfl (gM0 hM) rfl rfl rfl rfl dX4_runOne_84 rfl ?_
    refine gx_iload_n hX 1 dX4_runOne_87 rfl rfl ?_
    refine gx_bipush (v := 7) hX dX4_runOne_88 rfl (by decide) ?_
    refine gx_callS (As := [.int (nI i), .int 7]) (st := [.ref (gF Y mo 0)]) hC (c_X4_at l Y (uI τ (gF Y mo 0) (17 + 10 * i + 6) (qvo (qg r n) (qr1 (qg r n) r i) (r (17 + 10 * i + 2)))) i 7) kX4_at wm_RX4_38 rfl rfl rfl rfl dX4_runOne_90 rfl (gx_ki fun r90 τ90 hq90 => ?_)
    obtain ⟨rfl, rfl⟩ := hq90
    refine gx_aload_n hX 0 dX4_runOne_93 rfl rfl ?_
    refine gx_aload_n hX 0 dX4_runOne_94 rfl rfl ?_
    refine gx_iload_n hX 1 dX4_runOne_95 rfl rfl ?_
    refine gx_iconst (v := 3) hX dX4_runOne_96 rfl (by decide) ?_
    refine gx_callV (As := [.int (nI i), .int 3]) (st := [.ref mo, .int (nI (17 + 10 * i + 7)), .ref (gF Y mo 0)]) hC (c_X4_get l Y mo (uI τ (gF Y mo 0) (17 + 10 * i + 6) (qvo (qg r n) (qr1 (qg r n) r i) (r (17 + 10 * i + 2)))) (qr2 (qg r n) r i) i 3 hM hr2.1 (by omega)) kX4_get wm_RX4_50 rfl (gM0 hM) rfl rfl rfl rfl rfl dX4_runOne_97 rfl (gx_ki fun r97 τ97 hq97 => ?_)
    obtain ⟨rfl, rfl⟩ := hq97
    refine gx_topi (b := (r (17 + 10 * i + 3))) (qr2_off (by omega) (by omega) (by omega) (by omega)) ?_
    refine gx_callV (As := [.int (r (17 + 10 * i + 3))]) (st := [.int (nI (17 + 10 * i + 7)), .ref (gF Y mo 0)]) hC (c_X4_versionOf l Y mo (uI τ (gF Y mo 0) (17 + 10 * i + 6) (qvo (qg r n) (qr1 (qg r n) r i) (r (17 + 10 * i + 2)))) (qr2 (qg r n) r i) n hM hr2 (r (17 + 10 * i + 3)) (by rw [qg_r2]; exact hsr)) kX4_versionOf wm_RX4_99 rfl (gM0 hM) rfl rfl rfl rfl rfl dX4_runOne_100 rfl (gx_ki fun r100 τ100 hq100 => ?_)
    obtain ⟨rfl, rfl⟩ := hq100
    refine gx_topi (b := (qvo (qg r n) (qr2 (qg r n) r i) (r (17 + 10 * i + 3)))) (by rw [qg_r2]) ?_
    refine gx_iast (i := 17 + 10 * i + 7) hC (gM1 hM) rfl rfl rfl rfl (by omega) rfl dX4_runOne_103 rfl ?_
    have hr3 : gRow Y mo (uI (uI τ (gF Y mo 0) (17 + 10 * i + 6) (qvo (qg r n) (qr1 (qg r n) r i) (r (17 + 10 * i + 2)))) (gF Y mo 0) (17 + 10 * i + 7) (qvo (qg r n) (qr2 (qg r n) r i) (r (17 + 10 * i + 3)))) (qr3 (qg r n) r i) n := hr2.now (by omega)
    refine gx_aload_n hX 0 dX4_runOne_104 rfl rfl ?_
    refine gx_get hC 0 inlX4 wf_RX4_7 rfl (gM0 hM) rfl rfl rfl rfl dX4_runOne_105 rfl ?_
    refine gx_iload_n hX 1 dX4_runOne_108 rfl rfl ?_
    refine gx_bipush (v := 8) hX dX4_runOne_109 rfl (by decide) ?_
    refine gx_callS (As := [.int (nI i), .int 8]) (st := [.ref (gF Y mo 0)]) hC (c_X4_at l Y (uI (uI τ (gF Y mo 0) (17 + 10 * i + 6) (qvo (qg r n) (qr1 (qg r n) r i) (r (17 + 10 * i + 2)))) (gF Y mo 0) (17 + 10 * i + 7) (qvo (qg r n) (qr2 (qg r n) r i) (r (17 + 10 * i + 3)))) i 8) kX4_at wm_RX4_38 rfl rfl rfl rfl dX4_runOne_111 rfl (gx_ki fun r111 τ111 hq111 => ?_)
    obtain ⟨rfl, rfl⟩ := hq111
    refine gx_dup2 hX dX4_runOne_114 rfl rfl rfl ?_
    refine gx_iald (i := 17 + 10 * i + 8) hC (gM1 hM) rfl rfl (by omega) rfl dX4_runOne_115 rfl ?_
    refine gx_topi (b := (r (17 + 10 * i + 8))) (by rw [hr3.1]; exact qr3_off (by omega) (by omega) (by omega) (by omega) (by omega)) ?_
    refine gx_iconst (v := 1) hX dX4_runOne_116 rfl (by decide) ?_
    refine gx_iadd hX dX4_runOne_117 rfl ?_
    refine gx_iast (i := 17 + 10 * i + 8) hC (gM1 hM) rfl rfl rfl rfl (by omega) rfl dX4_runOne_118 rfl ?_
    have hr4a : gRow Y mo (uI (uI (uI τ (gF Y mo 0) (17 + 10 * i + 6) (qvo (qg r n) (qr1 (qg r n) r i) (r (17 + 10 * i + 2)))) (gF Y mo 0) (17 + 10 * i + 7) (qvo (qg r n) (qr2 (qg r n) r i) (r (17 + 10 * i + 3)))) (gF Y mo 0) (17 + 10 * i + 8) (r (17 + 10 * i + 8) + 1)) (qup (qr3 (qg r n) r i) (17 + 10 * i + 8) (r (17 + 10 * i + 8) + 1)) n := hr3.now (by omega)
    refine gx_aload_n hX 0 dX4_runOne_119 rfl rfl ?_
    refine gx_get hC 0 inlX4 wf_RX4_7 rfl (gM0 hM) rfl rfl rfl rfl dX4_runOne_120 rfl ?_
    refine gx_iconst (v := 3) hX dX4_runOne_123 rfl (by decide) ?_
    refine gx_dup2 hX dX4_runOne_124 rfl rfl rfl ?_
    refine gx_iald (i := 3) hC (gM1 hM) rfl rfl (by omega) rfl dX4_runOne_125 rfl ?_
    refine gx_topi (b := (r 3)) (by rw [hr4a.1, qup_off (by omega)]; exact qr3_off (by omega) (by omega) (by omega) (by omega) (by omega)) ?_
    refine gx_iconst (v := 1) hX dX4_runOne_126 rfl (by decide) ?_
    refine gx_iadd hX dX4_runOne_127 rfl ?_
    refine gx_iast (i := 3) hC (gM1 hM) rfl rfl rfl rfl (by omega) rfl dX4_runOne_128 rfl ?_
    have hr4 : gRow Y mo (uI (uI (uI (uI τ (gF Y mo 0) (17 + 10 * i + 6) (qvo (qg r n) (qr1 (qg r n) r i) (r (17 + 10 * i + 2)))) (gF Y mo 0) (17 + 10 * i + 7) (qvo (qg r n) (qr2 (qg r n) r i) (r (17 + 10 * i + 3)))) (gF Y mo 0) (17 + 10 * i + 8) (r (17 + 10 * i + 8) + 1)) (gF Y mo 0) 3 (r 3 + 1)) (qr4 (qg r n) r i) n := hr4a.now (by omega)
    refine gx_aload_n hX 0 dX4_runOne_129 rfl rfl ?_
    refine gx_get hC 0 inlX4 wf_RX4_7 rfl (gM0 hM) rfl rfl rfl rfl dX4_runOne_130 rfl ?_
    refine gx_iconst (v := 5) hX dX4_runOne_133 rfl (by decide) ?_
    refine gx_aload_n hX 0 dX4_runOne_134 rfl rfl ?_
    refine gx_get hC 0 inlX4 wf_RX4_7 rfl (gM0 hM) rfl rfl rfl rfl dX4_runOne_135 rfl ?_
    refine gx_iconst (v := 4) hX dX4_runOne_138 rfl (by decide) ?_
    refine gx_iald (i := 4) hC (gM1 hM) rfl rfl (by omega) rfl dX4_runOne_139 rfl ?_
    refine gx_topi (b := (nI k)) (by rw [hr4.1]; exact (qr4_off (by omega) (by omega) (by omega) (by omega) (by omega) (by omega) (by omega)).trans h4) ?_
    refine gx_iaddN (i := 5) (j := k) hX dX4_runOne_140 rfl rfl rfl ?_
    refine gx_iload_n hX 1 dX4_runOne_141 rfl rfl ?_
    refine gx_iast (i := 5 + k) hC (gM1 hM) rfl rfl rfl rfl (by omega) rfl dX4_runOne_142 rfl ?_
    have hr5 : gRow Y mo (uI (uI (uI (uI (uI τ (gF Y mo 0) (17 + 10 * i + 6) (qvo (qg r n) (qr1 (qg r n) r i) (r (17 + 10 * i + 2)))) (gF Y mo 0) (17 + 10 * i + 7) (qvo (qg r n) (qr2 (qg r n) r i) (r (17 + 10 * i + 3)))) (gF Y mo 0) (17 + 10 * i + 8) (r (17 + 10 * i + 8) + 1)) (gF Y mo 0) 3 (r 3 + 1)) (gF Y mo 0) (5 + k) (nI i)) (qup (qr4 (qg r n) r i) (5 + k) (nI i)) n := hr4.now (by omega)
    refine gx_aload_n hX 0 dX4_runOne_143 rfl rfl ?_
    refine gx_get hC 0 inlX4 wf_RX4_7 rfl (gM0 hM) rfl rfl rfl rfl dX4_runOne_144 rfl ?_
    refine gx_iconst (v := 4) hX dX4_runOne_147 rfl (by decide) ?_
    refine gx_dup2 hX dX4_runOne_148 rfl rfl rfl ?_
    refine gx_iald (i := 4) hC (gM1 hM) rfl rfl (by omega) rfl dX4_runOne_149 rfl ?_
    refine gx_topi (b := (nI k)) (by rw [hr5.1, qup_off (by omega)]; exact (qr4_off (by omega) (by omega) (by omega) (by omega) (by omega) (by omega) (by omega)).trans h4) ?_
    refine gx_iconst (v := 1) hX dX4_runOne_150 rfl (by decide) ?_
    refine gx_iaddN (i := k) (j := 1) hX dX4_runOne_151 rfl rfl rfl ?_
    refine gx_iast (i := 4) hC (gM1 hM) rfl rfl rfl rfl (by omega) rfl dX4_runOne_152 rfl ?_
    exact gx_vret hC dX4_runOne_153 (⟨(((((((he.put (gM1 hM) (by decide)).put (gM1 hM) (by decide)).put (gM1 hM) (by decide)).put (gM1 hM) (by decide)).put (gM1 hM) (by decide)).put (gM1 hM) (by decide))), by rw [qrun_eq hk h4]; exact hr5.now (by omega)⟩)
  refine gx_aload_n hX 0 dX4_runOne_0 rfl rfl ?_
  refine gx_iload_n hX 1 dX4_runOne_1 rfl rfl ?_
  refine gx_callV (As := [.int (nI i)]) (st := []) hC (c_X4_compute l Y mo σ r n hM hr i hi hsl hsr) kX4_compute wm_RX4_96 rfl (gM0 hM) rfl rfl rfl rfl rfl dX4_runOne_2 rfl (gx_ki fun r2 τ2 hq2 => ?_)
  obtain ⟨rfl, rfl⟩ := hq2
  refine gx_istore_n (lv' := [(2, .int (qcmp (qg r n) r i)), (0, .ref mo), (1, .int (nI i))]) hX dX4_runOne_5 rfl (by decide) rfl ?_
  refine gx_aload_n hX 1 dX4_runOne_6 rfl rfl ?_
  refine gx_iload_n hX 2 dX4_runOne_7 rfl rfl ?_
  refine gx_iconst (v := 5) hX dX4_runOne_8 rfl (by decide) ?_
  refine gx_callV (As := [.int (nI i), .int 5]) (st := []) hC (c_X4_get l Y mo σ r i 5 hM hr.1 (by omega)) kX4_get wm_RX4_50 rfl (gM0 hM) rfl rfl rfl rfl rfl dX4_runOne_9 rfl (gx_ki fun r9 τ9 hq9 => ?_)
  obtain ⟨rfl, rfl⟩ := hq9
  refine gx_if_eq (tgt := 25) hX dX4_runOne_12 (by decide) rfl (fun h12 => ?_) (fun h12 => ?_)
  · refine gx_aload_n hX 1 dX4_runOne_25 rfl rfl ?_
    refine gx_get hC 0 inlX4 wf_RX4_7 rfl (gM0 hM) rfl rfl rfl rfl dX4_runOne_26 rfl ?_
    refine gx_iconst (v := 2) hX dX4_runOne_29 rfl (by decide) ?_
    refine gx_dup2 hX dX4_runOne_30 rfl rfl rfl ?_
    refine gx_iald (i := 2) hC (gM1 hM) rfl rfl (by omega) rfl dX4_runOne_31 rfl ?_
    refine gx_topi (b := (r 2)) (by rw [hq1]) ?_
    refine gx_iconst (v := 1) hX dX4_runOne_32 rfl (by decide) ?_
    refine gx_iadd hX dX4_runOne_33 rfl ?_
    refine gx_iast (i := 2) hC (gM1 hM) rfl rfl rfl rfl (by omega) rfl dX4_runOne_34 rfl ?_
    refine gx_aload_n hX 1 dX4_runOne_35 rfl rfl ?_
    refine gx_get hC 0 inlX4 wf_RX4_7 rfl (gM0 hM) rfl rfl rfl rfl dX4_runOne_36 rfl ?_
    refine gx_iload_n hX 2 dX4_runOne_39 rfl rfl ?_
    refine gx_iconst (v := 4) hX dX4_runOne_40 rfl (by decide) ?_
    refine gx_callS (As := [.int (nI i), .int 4]) (st := [.ref (gF Y mo 0)]) hC (c_X4_at l Y (uI σ (gF Y mo 0) 2 ((r 2) + 1)) i 4) kX4_at wm_RX4_38 rfl rfl rfl rfl dX4_runOne_41 rfl (gx_ki fun r41 τ41 hq41 => ?_)
    obtain ⟨rfl, rfl⟩ := hq41
    refine gx_iload_n hX 0 dX4_runOne_44 rfl rfl ?_
    refine gx_iast (i := 17 + 10 * i + 4) hC (gM1 hM) rfl rfl rfl rfl (by omega) rfl dX4_runOne_45 rfl ?_
    refine gx_aload_n hX 1 dX4_runOne_46 rfl rfl ?_
    refine gx_get hC 0 inlX4 wf_RX4_7 rfl (gM0 hM) rfl rfl rfl rfl dX4_runOne_47 rfl ?_
    refine gx_iload_n hX 2 dX4_runOne_50 rfl rfl ?_
    refine gx_iconst (v := 5) hX dX4_runOne_51 rfl (by decide) ?_
    refine gx_callS (As := [.int (nI i), .int 5]) (st := [.ref (gF Y mo 0)]) hC (c_X4_at l Y (uI (uI σ (gF Y mo 0) 2 ((r 2) + 1)) (gF Y mo 0) (17 + 10 * i + 4) (qcmp (qg r n) r i)) i 5) kX4_at wm_RX4_38 rfl rfl rfl rfl dX4_runOne_52 rfl (gx_ki fun r52 τ52 hq52 => ?_)
    obtain ⟨rfl, rfl⟩ := hq52
    refine gx_aload_n hX 1 dX4_runOne_55 rfl rfl ?_
    refine gx_get hC 0 inlX4 wf_RX4_7 rfl (gM0 hM) rfl rfl rfl rfl dX4_runOne_56 rfl ?_
    refine gx_iconst (v := 2) hX dX4_runOne_59 rfl (by decide) ?_
    refine gx_iald (i := 2) hC (gM1 hM) rfl rfl (by omega) rfl dX4_runOne_60 rfl ?_
    refine gx_topi (b := (r 2 + 1)) (by simp [uI]) ?_
    refine gx_iast (i := 17 + 10 * i + 5) hC (gM1 hM) rfl rfl rfl rfl (by omega) rfl dX4_runOne_61 rfl ?_
    have e62 : qr1 (qg r n) r i = qup (qup (qup r 2 (r 2 + 1)) (17 + 10 * i + 4) (qcmp (qg r n) r i)) (17 + 10 * i + 5) (r 2 + 1) := by unfold qr1; rw [if_pos (by first | exact Or.inl h12 | exact Or.inr h22)]
    exact gx_sub [1, 2] rfl (J62 _ (((gEq.rf.put (gM1 hM) (by decide)).put (gM1 hM) (by decide)).put (gM1 hM) (by decide)) (by rw [e62]; exact ((hr.now (by omega)).now (by omega)).now (by omega)))
  · refine gx_aload_n hX 1 dX4_runOne_15 rfl rfl ?_
    refine gx_iload_n hX 2 dX4_runOne_16 rfl rfl ?_
    refine gx_iconst (v := 4) hX dX4_runOne_17 rfl (by decide) ?_
    refine gx_callV (As := [.int (nI i), .int 4]) (st := []) hC (c_X4_get l Y mo σ r i 4 hM hr.1 (by omega)) kX4_get wm_RX4_50 rfl (gM0 hM) rfl rfl rfl rfl rfl dX4_runOne_18 rfl (gx_ki fun r18 τ18 hq18 => ?_)
    obtain ⟨rfl, rfl⟩ := hq18
    refine gx_iload_n hX 0 dX4_runOne_21 rfl rfl ?_
    refine gx_icmp_eq (tgt := 62) hX dX4_runOne_22 (by decide) rfl (fun h22 => ?_) (fun h22 => ?_)
    · have e62 : qr1 (qg r n) r i = r := by unfold qr1; rw [if_neg (by rintro (q | q); exact h12 q; exact q h22)]
      exact gx_sub [1, 2] rfl (J62 _ gEq.rf (by rw [e62]; exact hr))
    · refine gx_aload_n hX 1 dX4_runOne_25 rfl rfl ?_
      refine gx_get hC 0 inlX4 wf_RX4_7 rfl (gM0 hM) rfl rfl rfl rfl dX4_runOne_26 rfl ?_
      refine gx_iconst (v := 2) hX dX4_runOne_29 rfl (by decide) ?_
      refine gx_dup2 hX dX4_runOne_30 rfl rfl rfl ?_
      refine gx_iald (i := 2) hC (gM1 hM) rfl rfl (by omega) rfl dX4_runOne_31 rfl ?_
      refine gx_topi (b := (r 2)) (by rw [hq1]) ?_
      refine gx_iconst (v := 1) hX dX4_runOne_32 rfl (by decide) ?_
      refine gx_iadd hX dX4_runOne_33 rfl ?_
      refine gx_iast (i := 2) hC (gM1 hM) rfl rfl rfl rfl (by omega) rfl dX4_runOne_34 rfl ?_
      refine gx_aload_n hX 1 dX4_runOne_35 rfl rfl ?_
      refine gx_get hC 0 inlX4 wf_RX4_7 rfl (gM0 hM) rfl rfl rfl rfl dX4_runOne_36 rfl ?_
      refine gx_iload_n hX 2 dX4_runOne_39 rfl rfl ?_
      refine gx_iconst (v := 4) hX dX4_runOne_40 rfl (by decide) ?_
      refine gx_callS (As := [.int (nI i), .int 4]) (st := [.ref (gF Y mo 0)]) hC (c_X4_at l Y (uI σ (gF Y mo 0) 2 ((r 2) + 1)) i 4) kX4_at wm_RX4_38 rfl rfl rfl rfl dX4_runOne_41 rfl (gx_ki fun r41 τ41 hq41 => ?_)
      obtain ⟨rfl, rfl⟩ := hq41
      refine gx_iload_n hX 0 dX4_runOne_44 rfl rfl ?_
      refine gx_iast (i := 17 + 10 * i + 4) hC (gM1 hM) rfl rfl rfl rfl (by omega) rfl dX4_runOne_45 rfl ?_
      refine gx_aload_n hX 1 dX4_runOne_46 rfl rfl ?_
      refine gx_get hC 0 inlX4 wf_RX4_7 rfl (gM0 hM) rfl rfl rfl rfl dX4_runOne_47 rfl ?_
      refine gx_iload_n hX 2 dX4_runOne_50 rfl rfl ?_
      refine gx_iconst (v := 5) hX dX4_runOne_51 rfl (by decide) ?_
      refine gx_callS (As := [.int (nI i), .int 5]) (st := [.ref (gF Y mo 0)]) hC (c_X4_at l Y (uI (uI σ (gF Y mo 0) 2 ((r 2) + 1)) (gF Y mo 0) (17 + 10 * i + 4) (qcmp (qg r n) r i)) i 5) kX4_at wm_RX4_38 rfl rfl rfl rfl dX4_runOne_52 rfl (gx_ki fun r52 τ52 hq52 => ?_)
      obtain ⟨rfl, rfl⟩ := hq52
      refine gx_aload_n hX 1 dX4_runOne_55 rfl rfl ?_
      refine gx_get hC 0 inlX4 wf_RX4_7 rfl (gM0 hM) rfl rfl rfl rfl dX4_runOne_56 rfl ?_
      refine gx_iconst (v := 2) hX dX4_runOne_59 rfl (by decide) ?_
      refine gx_iald (i := 2) hC (gM1 hM) rfl rfl (by omega) rfl dX4_runOne_60 rfl ?_
      refine gx_topi (b := (r 2 + 1)) (by simp [uI]) ?_
      refine gx_iast (i := 17 + 10 * i + 5) hC (gM1 hM) rfl rfl rfl rfl (by omega) rfl dX4_runOne_61 rfl ?_
      have e62 : qr1 (qg r n) r i = qup (qup (qup r 2 (r 2 + 1)) (17 + 10 * i + 4) (qcmp (qg r n) r i)) (17 + 10 * i + 5) (r 2 + 1) := by unfold qr1; rw [if_pos (by first | exact Or.inl h12 | exact Or.inr h22)]
      exact gx_sub [1, 2] rfl (J62 _ (((gEq.rf.put (gM1 hM) (by decide)).put (gM1 hM) (by decide)).put (gM1 hM) (by decide)) (by rw [e62]; exact ((hr.now (by omega)).now (by omega)).now (by omega)))

set_option maxRecDepth 100000 in
set_option maxHeartbeats 4000000 in
theorem c_X4_runThrough (l : Launch) (Y : gL) (mo : Nat) (σ : gS) (r : Nat → Int32) (n : Nat) (hM : gLM Y mo) (hr : gRow Y mo σ r n) (B : Nat) (set : Int32) (hB : B + 12 < 2 ^ 30) (hI : qRI r n B) (h4 : r 4 = 0) (hcl : qcl (qg r n) set) : gM l yX4_runThrough cX4_runThrough 4 none (gRm 7 156) Y [.ref mo, .int set] σ (gV fun τ => gEq Y [15, 16, 19, 20, 21, 22, 23] σ τ ∧ τ.1 mo 2 = σ.1 mo 2 ∧ gRow Y mo τ (qrt r n set) n) := by
  have hr1 := hr.1
  have hr2 := hr.2.1
  have hr3 := hr.2.2
  refine gM.of (by decide) rfl ?_
  intro p e s m args below meth c hC
  have hX := hC.1
  refine gx_aload_n hX 0 dX4_runThrough_0 rfl rfl ?_
  refine gx_callV (As := []) (st := []) hC (c_X4_derive l Y mo σ r n hM hr) kX4_derive wm_RX4_102 rfl (gM0 hM) rfl rfl rfl rfl rfl dX4_runThrough_1 rfl (gx_kv fun τ1 hq1 => ?_)
  have hrA : gRow Y mo τ1 r n := hr.eq hM hq1.1 (by decide)
  obtain ⟨hq1e, hq1s, hD1, hD2, hD3, hD4, hD5, hD6⟩ := hq1
  have hqn := qm_le (qg r n)
  have hqn2 : qn (qg r n) = n := rfl
  refine gx_iconst (v := 0) hX dX4_runThrough_4 rfl (by decide) ?_
  refine gx_istore_n (lv' := [(2, .int 0), (0, .ref mo), (1, .int set)]) hX dX4_runThrough_5 rfl (by decide) rfl ?_
  have L6 : ∀ (k6 : Nat) (k : Nat) (τ : gS), qm (qg r n) - k < k6 → (k ≤ qm (qg r n)) → (gEq Y [16, 23] τ1 τ) → (gRow Y mo τ (qwk (qg r n) set r k).1 n) → (∀ c, c < n → τ.1 (gF Y mo 9) c = 0 ∨ τ.1 (gF Y mo 9) c = 1) → (∀ j, j < k → τ.1 (gF Y mo 9) (qo (qg r n) j) = if (qwk (qg r n) set r k).2 (qo (qg r n) j) = true then 1 else 0) → gG p l e (gRm 7 156) s m args below meth c Y (gV fun τ => gEq Y [15, 16, 19, 20, 21, 22, 23] σ τ ∧ τ.1 mo 2 = σ.1 mo 2 ∧ gRow Y mo τ (qrt r n set) n) τ 6 [(0, .ref mo), (1, .int set), (2, .int (nI k))] [] := by
    intro k6
    induction k6 with
    | zero => intro k τ hk6; exact absurd hk6 (Nat.not_lt_zero _)
    | succ k6 ih6 =>
      intro k τ hk6 hk he hrow hfv hfr
      refine gx_iload_n hX 2 dX4_runThrough_6 rfl rfl ?_
      refine gx_aload_n hX 0 dX4_runThrough_7 rfl rfl ?_
      refine gx_get hC 8 inlX4 wf_RX4_70 rfl (gM0 hM) rfl rfl rfl rfl dX4_runThrough_8 rfl ?_
      refine gx_topi (b := (nI (qm (qg r n)))) (by rw [he.at (gM0 hM) (by decide)]; exact hD4) ?_
      refine gx_nat_ge (i := k) (j := qm (qg r n)) (tgt := 72) hX dX4_runThrough_11 (by decide) rfl rfl rfl (by omega) (by omega) (fun h11 => ?_) (fun h11 => ?_)
      · exact gx_vret hC dX4_runThrough_72 (⟨(hq1e.mono (by decide)).tr (he.mono (by decide)), by rw [he.at (gM0 hM) (by decide)]; exact hq1s, by rw [show k = qm (qg r n) by omega] at hrow; exact hrow⟩)
      · refine gx_aload_n hX 0 dX4_runThrough_14 rfl rfl ?_
        refine gx_get hC 7 inlX4 wf_RX4_28 rfl (gM0 hM) rfl rfl rfl rfl dX4_runThrough_15 rfl ?_
        refine gx_iload_n hX 2 dX4_runThrough_18 rfl rfl ?_
        refine gx_iald (i := k) hC (gM7 hM) rfl rfl (by omega) rfl dX4_runThrough_19 rfl ?_
        refine gx_topi (b := (nI (qo (qg r n) k))) (by rw [he.at (gM7 hM) (by decide)]; exact hD5 k h11) ?_
        have hok : qo (qg r n) k < n := qm_lt h11
        have hI2 := qwk_inv hr3 hB hI h4 hcl k hk
        have hsw := qsrc_row (g := qg r n) hr3 rfl hI2.1 hok (qo_w hok)
        have hfb : ∀ d, d < n → τ.1 (gF Y mo 9) d = if (fun d => decide (τ.1 (gF Y mo 9) d = 1)) d = true then 1 else 0 := fun d hd => q01_fr (hfv d hd)
        have hqa := qfn_arr (F := τ.1 (gF Y mo 9)) (r := (qwk (qg r n) set r k).1) (fk := (qwk (qg r n) set r k).2) (k := k) (g := qg r n) hr3 rfl hI2.1 hok hfr
        refine gx_istore_n (lv' := [(3, .int (nI (qo (qg r n) k))), (0, .ref mo), (1, .int set), (2, .int (nI k))]) hX dX4_runThrough_20 rfl (by decide) rfl ?_
        refine gx_aload_n hX 1 dX4_runThrough_21 rfl rfl ?_
        refine gx_get hC 9 inlX4 wf_RX4_31 rfl (gM0 hM) rfl rfl rfl rfl dX4_runThrough_22 rfl ?_
        refine gx_iload_n hX 0 dX4_runThrough_25 rfl rfl ?_
        refine gx_aload_n hX 1 dX4_runThrough_26 rfl rfl ?_
        refine gx_iload_n hX 0 dX4_runThrough_27 rfl rfl ?_
        refine gx_callV (As := [.int (nI (qo (qg r n) k))]) (st := [.int (nI (qo (qg r n) k)), .ref (gF Y mo 9)]) hC (c_X4_isFreshNow l Y mo τ (qwk (qg r n) set r k).1 n hM hrow (fun d => decide (τ.1 (gF Y mo 9) d = 1)) hfb (qo (qg r n) k) hok (by rw [hI2.1]; exact hsw.1) (by rw [hI2.1]; exact hsw.2)) kX4_isFreshNow wm_RX4_86 rfl (gM0 hM) rfl rfl rfl rfl rfl dX4_runThrough_28 rfl (gx_ki fun r28 τ28 hq28 => ?_)
        obtain ⟨rfl, ⟨rfl, hb28⟩ | ⟨rfl, hb28⟩⟩ := hq28
        · have hb28t : qfn (qg r n) (qwk (qg r n) set r k).1 (qwk (qg r n) set r k).2 (qo (qg r n) k) = true := by rw [hI2.1, hqa] at hb28; exact hb28
          refine gx_zast (i := qo (qg r n) k) hC (gM9 hM) rfl rfl rfl rfl rfl (by omega) rfl dX4_runThrough_31 rfl ?_
          refine gx_iload_n hX 2 dX4_runThrough_32 rfl rfl ?_
          refine gx_iload_n hX 0 dX4_runThrough_33 rfl rfl ?_
          refine gx_ishr hX dX4_runThrough_34 rfl ?_
          refine gx_iconst (v := 1) hX dX4_runThrough_35 rfl (by decide) ?_
          refine gx_iand hX dX4_runThrough_36 rfl ?_
          refine gx_iconst (v := 1) hX dX4_runThrough_37 rfl (by decide) ?_
          refine gx_icmp_ne (tgt := 66) hX dX4_runThrough_38 (by decide) rfl (fun h38 => ?_) (fun h38 => ?_)
          · refine gx_iinc (w := (nI (k + 1))) (lv' := [(2, .int (nI (k + 1))), (3, .int (nI (qo (qg r n) k))), (0, .ref mo), (1, .int set)]) hX 3 dX4_runThrough_66 rfl rfl (nI_add _ _) (by decide) rfl ?_
            refine gx_goto (pc' := 6) hX dX4_runThrough_69 (by decide) ?_
            have hw1 := qwk_f (set := set) hb28t
            exact gx_sub [2, 3, 0] rfl (ih6 (k + 1) _ (by omega) (by omega) (he.put (gM9 hM) (by decide)) (by rw [hw1]; exact hrow.put (gM9 hM) (by decide) hM) (uI_01 hfv (by decide)) (fun j hj => by rw [hw1]; exact uI_qubp (b := true) (fun hne => hfr j (by rcases Nat.lt_or_ge j k with q | q; exact q; exact absurd (by rw [show j = k by omega]) hne)) rfl))
          · refine gx_aload_n hX 1 dX4_runThrough_41 rfl rfl ?_
            refine gx_get hC 9 inlX4 wf_RX4_31 rfl (gM0 hM) rfl rfl rfl rfl dX4_runThrough_42 rfl ?_
            refine gx_iload_n hX 0 dX4_runThrough_45 rfl rfl ?_
            refine gx_zald (i := qo (qg r n) k) hC (gM9 hM) rfl rfl (by omega) rfl dX4_runThrough_46 rfl ?_
            refine gx_topi (b := 1) (by simp [uI]) ?_
            refine gx_if_ne_t (tgt := 66) hX dX4_runThrough_47 (by decide) (by decide) ?_
            refine gx_iinc (w := (nI (k + 1))) (lv' := [(2, .int (nI (k + 1))), (3, .int (nI (qo (qg r n) k))), (0, .ref mo), (1, .int set)]) hX 3 dX4_runThrough_66 rfl rfl (nI_add _ _) (by decide) rfl ?_
            refine gx_goto (pc' := 6) hX dX4_runThrough_69 (by decide) ?_
            have hw1 := qwk_f (set := set) hb28t
            exact gx_sub [2, 3, 0] rfl (ih6 (k + 1) _ (by omega) (by omega) (he.put (gM9 hM) (by decide)) (by rw [hw1]; exact hrow.put (gM9 hM) (by decide) hM) (uI_01 hfv (by decide)) (fun j hj => by rw [hw1]; exact uI_qubp (b := true) (fun hne => hfr j (by rcases Nat.lt_or_ge j k with q | q; exact q; exact absurd (by rw [show j = k by omega]) hne)) rfl))
        · have hb28t : ¬ qfn (qg r n) (qwk (qg r n) set r k).1 (qwk (qg r n) set r k).2 (qo (qg r n) k) = true := by rw [hI2.1, hqa] at hb28; exact hb28
          refine gx_zast (i := qo (qg r n) k) hC (gM9 hM) rfl rfl rfl rfl rfl (by omega) rfl dX4_runThrough_31 rfl ?_
          refine gx_iload_n hX 2 dX4_runThrough_32 rfl rfl ?_
          refine gx_iload_n hX 0 dX4_runThrough_33 rfl rfl ?_
          refine gx_ishr hX dX4_runThrough_34 rfl ?_
          refine gx_iconst (v := 1) hX dX4_runThrough_35 rfl (by decide) ?_
          refine gx_iand hX dX4_runThrough_36 rfl ?_
          refine gx_iconst (v := 1) hX dX4_runThrough_37 rfl (by decide) ?_
          refine gx_icmp_ne (tgt := 66) hX dX4_runThrough_38 (by decide) rfl (fun h38 => ?_) (fun h38 => ?_)
          · refine gx_iinc (w := (nI (k + 1))) (lv' := [(2, .int (nI (k + 1))), (3, .int (nI (qo (qg r n) k))), (0, .ref mo), (1, .int set)]) hX 3 dX4_runThrough_66 rfl rfl (nI_add _ _) (by decide) rfl ?_
            refine gx_goto (pc' := 6) hX dX4_runThrough_69 (by decide) ?_
            have hw1 := qwk_n (set := set) hb28t (fun q => h38 (qt_iff.mpr q))
            exact gx_sub [2, 3, 0] rfl (ih6 (k + 1) _ (by omega) (by omega) (he.put (gM9 hM) (by decide)) (by rw [hw1]; exact hrow.put (gM9 hM) (by decide) hM) (uI_01 hfv (by decide)) (fun j hj => by rw [hw1]; exact uI_qubp (b := false) (fun hne => hfr j (by rcases Nat.lt_or_ge j k with q | q; exact q; exact absurd (by rw [show j = k by omega]) hne)) rfl))
          · refine gx_aload_n hX 1 dX4_runThrough_41 rfl rfl ?_
            refine gx_get hC 9 inlX4 wf_RX4_31 rfl (gM0 hM) rfl rfl rfl rfl dX4_runThrough_42 rfl ?_
            refine gx_iload_n hX 0 dX4_runThrough_45 rfl rfl ?_
            refine gx_zald (i := qo (qg r n) k) hC (gM9 hM) rfl rfl (by omega) rfl dX4_runThrough_46 rfl ?_
            refine gx_topi (b := 0) (by simp [uI]) ?_
            refine gx_if_ne_f (tgt := 66) hX dX4_runThrough_47 (by decide) rfl (by decide) ?_
            obtain ⟨j0, hj0, i6⟩ := hI2.2.2.2.2.2.1
            refine gx_aload_n hX 1 dX4_runThrough_50 rfl rfl ?_
            refine gx_iload_n hX 0 dX4_runThrough_51 rfl rfl ?_
            refine gx_callV (As := [.int (nI (qo (qg r n) k))]) (st := []) hC (c_X4_runOne l Y mo (uI τ (gF Y mo 9) (qo (qg r n) k) 0) (qwk (qg r n) set r k).1 n hM (hrow.put (gM9 hM) (by decide) hM) (qo (qg r n) k) j0 hok (by omega) i6 (by rw [hI2.1]; exact hsw.1) (by rw [hI2.1]; exact hsw.2)) kX4_runOne wm_RX4_105 rfl (gM0 hM) rfl rfl rfl rfl rfl dX4_runThrough_52 rfl (gx_kv fun τ52 hq52 => ?_)
            have hg2 : qg (qrun (qg (qwk (qg r n) set r k).1 n) (qwk (qg r n) set r k).1 (qo (qg r n) k)) n = qg r n := by rw [qg_run (k := j0) (by omega) i6]; exact hI2.1
            have hsw2 := qsrc_row (g := qg r n) hr3 rfl hg2 hok (qo_w hok)
            have he2 : gEq Y [16, 23] τ1 τ52 := (he.put (gM9 hM) (by decide)).tr (hq52.1.mono (by decide))
            have hfv2 : ∀ c, c < n → τ52.1 (gF Y mo 9) c = 0 ∨ τ52.1 (gF Y mo 9) c = 1 := by rw [hq52.1.at (gM9 hM) (by decide)]; exact uI_01 hfv (by decide)
            have hfc : ∀ d, d < n → τ52.1 (gF Y mo 9) d = if (fun d => decide (τ52.1 (gF Y mo 9) d = 1)) d = true then 1 else 0 := fun d hd => q01_fr (hfv2 d hd)
            have hqb := qfn_arr (F := τ52.1 (gF Y mo 9)) (r := qrun (qg (qwk (qg r n) set r k).1 n) (qwk (qg r n) set r k).1 (qo (qg r n) k)) (fk := (qwk (qg r n) set r k).2) (k := k) (g := qg r n) hr3 rfl hg2 hok (fun j hj => by rw [hq52.1.at (gM9 hM) (by decide), uI_off (qo_ne (g := qg r n) hr3 hj hok)]; exact hfr j hj)
            have hI3 := qwk_inv hr3 hB hI h4 hcl (k + 1) h11
            have hrn : qfn (qg r n) (qrun (qg (qwk (qg r n) set r k).1 n) (qwk (qg r n) set r k).1 (qo (qg r n) k)) (qwk (qg r n) set r k).2 (qo (qg r n) k) = true := qfn_after hr3 hB hI h4 hcl h11 hb28t (qt_iff.mp h38) hI2.1
            refine gx_aload_n hX 1 dX4_runThrough_55 rfl rfl ?_
            refine gx_get hC 9 inlX4 wf_RX4_31 rfl (gM0 hM) rfl rfl rfl rfl dX4_runThrough_56 rfl ?_
            refine gx_iload_n hX 0 dX4_runThrough_59 rfl rfl ?_
            refine gx_aload_n hX 1 dX4_runThrough_60 rfl rfl ?_
            refine gx_iload_n hX 0 dX4_runThrough_61 rfl rfl ?_
            refine gx_callV (As := [.int (nI (qo (qg r n) k))]) (st := [.int (nI (qo (qg r n) k)), .ref (gF Y mo 9)]) hC (c_X4_isFreshNow l Y mo τ52 (qrun (qg (qwk (qg r n) set r k).1 n) (qwk (qg r n) set r k).1 (qo (qg r n) k)) n hM hq52.2 (fun d => decide (τ52.1 (gF Y mo 9) d = 1)) hfc (qo (qg r n) k) hok (by rw [hg2]; exact hsw2.1) (by rw [hg2]; exact hsw2.2)) kX4_isFreshNow wm_RX4_86 rfl (gM0 hM) rfl rfl rfl rfl rfl dX4_runThrough_62 rfl (gx_ki fun r62 τ62 hq62 => ?_)
            obtain ⟨rfl, ⟨rfl, hb62⟩ | ⟨rfl, hb62⟩⟩ := hq62
            · refine gx_zast (i := qo (qg r n) k) hC (gM9 hM) rfl rfl rfl rfl rfl (by omega) rfl dX4_runThrough_65 rfl ?_
              refine gx_iinc (w := (nI (k + 1))) (lv' := [(2, .int (nI (k + 1))), (3, .int (nI (qo (qg r n) k))), (0, .ref mo), (1, .int set)]) hX 3 dX4_runThrough_66 rfl rfl (nI_add _ _) (by decide) rfl ?_
              refine gx_goto (pc' := 6) hX dX4_runThrough_69 (by decide) ?_
              have hw1 := qwk_r (set := set) hb28t (qt_iff.mp h38)
              exact gx_sub [2, 3, 0] rfl (ih6 (k + 1) _ (by omega) (by omega) (he2.put (gM9 hM) (by decide)) (by have hz := gRow.put (k := qo (qg r n) k) (v := 1) hq52.2 (gM9 hM) (by decide) hM; rw [hI2.1] at hz; rw [hw1]; exact hz) (uI_01 hfv2 (by decide)) (fun j hj => by rw [hw1]; exact uI_qubp (b := true) (fun hne => by rw [hq52.1.at (gM9 hM) (by decide), uI_off hne]; exact hfr j (by rcases Nat.lt_or_ge j k with q | q; exact q; exact absurd (by rw [show j = k by omega]) hne)) rfl))
            · exact absurd (by rw [hg2, hqb]; exact hrn) hb62
  exact gx_sub [1, 2, 0] rfl (L6 (qm (qg r n) + 1) 0 τ1 (by omega) (by omega) gEq.rf hrA (fun c hc => by rw [hD6 c hc]; split; exact Or.inr rfl; exact Or.inl rfl) (fun j hj => absurd hj (Nat.not_lt_zero j)))
end
section
/-! ===== each call: its answer and the state behind it; a state: the row, how many cells, the saved rows, how many, the error counters ===== -/
abbrev qA : Type := (Nat → Int32) × Nat × (Nat → Nat → Int32) × Nat × (Nat → Int32)
def qfail (a : qA) (k : Nat) : qA := (a.1, a.2.1, a.2.2.1, a.2.2.2.1, qup a.2.2.2.2 k (a.2.2.2.2 k + 1))
/-- saved, and the row is another -/
def qsave (a : qA) (r : Nat → Int32) (n : Nat) : qA := (r, n, qpush a.2.2.1 a.2.2.2.1 a.1, qpn a.2.2.2.1, a.2.2.2.2)
def qci (n : Nat) (x : Int32) : Option Nat := if ¬ x < 0 ∧ ¬ nI n - 1 < x then some x.toNatClampNeg else none
def qisdef (v op x y : Int32) : Prop := (¬ v < 0 ∧ ¬ 9 < v) ∧ (¬ op < 0 ∧ ¬ 5 < op) ∧ (¬ x < 0 ∧ ¬ 109 < x) ∧ (¬ y < 0 ∧ ¬ 109 < y)
def qcell (a : qA) (x : Int32) (f : Nat → Int32 × qA) : Int32 × qA := match qci a.2.1 x with
  | none => (-10002, qfail a 0)
  | some c => f c
def qsv (r : Nat → Int32) : Nat → Int32 := qup r 4 0
def qeag (r : Nat → Int32) (n : Nat) : Nat → Int32 := if r 1 = 1 then qrt r n (-1) else r
def qadd1 (r : Nat → Int32) (n : Nat) (v op x y : Int32) : Nat → Int32 := qup (qup (qdef (qsv r) n v op x y) (17 + 10 * n + 8) 0) 0 (nI (n + 1))
def qaddCell (a : qA) (v op x y : Int32) : Int32 × qA :=
  if (¬ v < 0 ∧ ¬ 9 < v) ∧ (¬ op < 0 ∧ ¬ 5 < op) ∧ (¬ x < 0 ∧ ¬ 109 < x) ∧ (¬ y < 0 ∧ ¬ 109 < y) then
    (if a.2.1 = 12 then (-10004, qfail a 2) else (nI a.2.1, qsave a (qeag (qadd1 a.1 a.2.1 v op x y) (a.2.1 + 1)) (a.2.1 + 1)))
  else (-10002, qfail a 0)
def qeditCell (a : qA) (c v op x y : Int32) : Int32 × qA := qcell a c (fun c =>
  if (¬ v < 0 ∧ ¬ 9 < v) ∧ (¬ op < 0 ∧ ¬ 5 < op) ∧ (¬ x < 0 ∧ ¬ 109 < x) ∧ (¬ y < 0 ∧ ¬ 109 < y) then
    (a.1 (17 + 10 * c + 0), qsave a (qeag (qdef (qsv a.1) c v op x y) a.2.1) a.2.1)
  else (-10002, qfail a 0))
/-- the blocks from a on, up to b, one to the left -/
def qshl (r : Nat → Int32) (a b : Nat) : Nat → Int32 := fun j => if 17 + 10 * a ≤ j ∧ j < 17 + 10 * b then r (j + 10) else r j
/-- the blocks from b + 1 on, up to and with a, filled from the left -/
def qshr (r : Nat → Int32) (a b : Nat) : Nat → Int32 := fun j => if 17 + 10 * (b + 1) ≤ j ∧ j < 17 + 10 * (a + 1) then r (j - 10) else r j
/-- k places of a block laid from f -/
def qlay (r : Nat → Int32) (t : Nat) (f : Nat → Int32) (k : Nat) : Nat → Int32 := fun j => if 17 + 10 * t ≤ j ∧ j < 17 + 10 * t + k then f (j - (17 + 10 * t)) else r j
def qdeleteCell (a : qA) (c : Int32) : Int32 × qA := qcell a c (fun c => (nI (a.2.1 - 1), qsave a (qeag (qshl (qup (qsv a.1) 0 (nI (a.2.1 - 1))) c (a.2.1 - 1)) (a.2.1 - 1)) (a.2.1 - 1)))
def qmv (r : Nat → Int32) (c t : Nat) : Nat → Int32 := qlay (if c < t then qshl r c t else qshr r c t) t (fun k => r (17 + 10 * c + k)) 10
def qmoveCell (a : qA) (c t : Int32) : Int32 × qA := qcell a c (fun c => qcell a t (fun t => (nI (if c = t then 0 else if c < t then t - c + 1 else c - t + 1), qsave a (qeag (qmv (qsv a.1) c t) a.2.1) a.2.1)))
def qsetEager (a : qA) (e : Int32) : Int32 × qA := if ¬ e < 0 ∧ ¬ 1 < e then (a.1 1, qsave a (qeag (qup (qsv a.1) 1 e) a.2.1) a.2.1) else (-10002, qfail a 0)
def qrunStale (a : qA) : Int32 × qA := (qrt (qsv a.1) a.2.1 (-1) 4, qsave a (qrt (qsv a.1) a.2.1 (-1)) a.2.1)
/-- a set of cells out of its members -/
def qmk (p : Nat → Bool) : Nat → Int32
  | 0 => 0
  | k + 1 => qmk p k ||| (if p k = true then qb k else 0)
def qset (g : qG) (c : Nat) : Int32 := qmk (fun d => qall g c d || decide (d = c)) (qn g)
def qrunCell (a : qA) (c : Int32) : Int32 × qA := qcell a c (fun c => if qw (qg a.1 a.2.1) c = 0 then (qrt (qsv a.1) a.2.1 (qset (qg a.1 a.2.1) c) 4, qsave a (qrt (qsv a.1) a.2.1 (qset (qg a.1 a.2.1) c)) a.2.1) else (-10003, qfail a 1))
def qlastRun (a : qA) (i : Int32) : Int32 × qA := if i < 0 then (-10002, qfail a 0) else if i < a.1 4 then (a.1 (5 + i.toNatClampNeg), a) else (-10001, a)
def qof (a : qA) (c : Int32) (w : Nat) : Int32 × qA := qcell a c (fun c => (a.1 (17 + 10 * c + w), a))
def qstatus (a : qA) (c : Int32) : Int32 × qA := qcell a c (fun c => (qsta (qg a.1 a.2.1) a.1 c, a))
def qvalue (a : qA) (c : Int32) : Int32 × qA := qcell a c (fun c => (qval (qg a.1 a.2.1) a.1 c, a))
def qvalueOf (a : qA) (v : Int32) : Int32 × qA := if ¬ v < 0 ∧ ¬ 9 < v then ((if qonl (qdf (qg a.1 a.2.1) v) < 12 then qval (qg a.1 a.2.1) a.1 (qonl (qdf (qg a.1 a.2.1) v)) else -10001), a) else (-10002, qfail a 0)
def qdependencies (a : qA) (c : Int32) : Int32 × qA := qcell a c (fun c => (qdir (qg a.1 a.2.1) c, a))
def qdependents (a : qA) (c : Int32) : Int32 × qA := qcell a c (fun c => (qdpt (qg a.1 a.2.1) c a.2.1, a))
def qdefiners (a : qA) (v : Int32) : Int32 × qA := if ¬ v < 0 ∧ ¬ 9 < v then (qdf (qg a.1 a.2.1) v, a) else (-10002, qfail a 0)
def qrunnableCount (a : qA) : Int32 × qA := (nI (qm (qg a.1 a.2.1)), a)
def qrunOrder (a : qA) (i : Int32) : Int32 × qA := if i < 0 then (-10002, qfail a 0) else if i < nI (qm (qg a.1 a.2.1)) then (nI (qo (qg a.1 a.2.1) i.toNatClampNeg), a) else (-10001, a)
def qcnt (p : Nat → Bool) : Nat → Nat
  | 0 => 0
  | k + 1 => qcnt p k + (if p k = true then 1 else 0)
def qstaleCount (a : qA) : Int32 × qA := (nI (qcnt (fun k => !(qF (qg a.1 a.2.1) a.1 (qo (qg a.1 a.2.1) k))) (qm (qg a.1 a.2.1))), a)
def qback (a : qA) : Nat → Int32 := fun j => if j < 137 then a.2.2.1 (a.2.2.2.1 - 1) j else a.1 j
def qundo (a : qA) : Int32 × qA := if a.2.2.2.1 = 0 then (-10003, qfail a 1) else (nI (a.2.2.2.1 - 1), (qback a, (qback a 0).toNatClampNeg, a.2.2.1, a.2.2.2.1 - 1, a.2.2.2.2))
def qerrorCount (a : qA) (k : Int32) : Int32 × qA := if ¬ k < 0 ∧ ¬ 2 < k then (a.2.2.2.2 k.toNatClampNeg, a) else (-10002, qfail a 0)
def qmix (h : Int64) (v : Int32) : Int64 := 31 * h + v.toInt64
def qhs (f : Nat → Int32) : Nat → Int64 → Int64
  | 0, h => h
  | k + 1, h => qmix (qhs f k h) (f k)
def qhc (g : qG) (r : Nat → Int32) (c : Nat) (h : Int64) : Int64 := qmix (qmix (qmix (qmix (qmix (qmix (qhs (fun w => r (17 + 10 * c + w)) 4 h) (qsta g r c)) (qval g r c)) (r (17 + 10 * c + 5))) (r (17 + 10 * c + 8))) (qdir g c)) (qdpt g c (qn g))
def qdigest (a : qA) : Int64 :=
  qhs (fun k => nI (qo (qg a.1 a.2.1) k)) (qm (qg a.1 a.2.1)) (qmix (qit (fun c h => qhc (qg a.1 a.2.1) a.1 c h) a.2.1 (qmix (qhs (fun k => a.1 (5 + k)) (a.1 4).toNatClampNeg (qmix (qmix (qmix (qmix (qhs a.2.2.2.2 3 11872) (nI a.2.2.2.1)) (a.1 1)) (a.1 3)) (a.1 4))) (a.1 0))) (nI (qm (qg a.1 a.2.1))))
/-! what holds of every state -/
def qAI (a : qA) (B : Nat) : Prop := qRI a.1 a.2.1 B ∧ a.2.2.2.1 ≤ 4 ∧ ∀ j, j < a.2.2.2.1 → ∃ n, qRI (a.2.2.1 j) n B
/-- the model's cells hold the state a -/
def gMA (Y : gL) (mo : Nat) (σ : gS) (a : qA) : Prop := gRow Y mo σ a.1 a.2.1 ∧ gPast Y mo σ a.2.2.1 a.2.2.2.1 ∧ σ.1 (gF Y mo 3) = a.2.2.2.2
/-! pieces -/
theorem qci_some {n : Nat} (hn : n ≤ 12) {c : Nat} (hc : c < n) : qci n (nI c) = some c := by
  unfold qci
  rw [if_pos ((qicell hn).mpr ⟨c, hc, rfl⟩), nI_clamp (by omega)]
theorem qci_none {n : Nat} (hn : n ≤ 12) {x : Int32} (h : ¬ ∃ j, j < n ∧ x = nI j) : qci n x = none := by
  unfold qci
  rw [if_neg (fun q => h ((qicell hn).mp q))]
theorem qcell_some {a : qA} (hn : a.2.1 ≤ 12) {c : Nat} (hc : c < a.2.1) {f : Nat → Int32 × qA} : qcell a (nI c) f = f c := by
  unfold qcell
  rw [qci_some hn hc]
theorem qcell_none {a : qA} (hn : a.2.1 ≤ 12) {x : Int32} (h : ¬ ∃ j, j < a.2.1 ∧ x = nI j) {f : Nat → Int32 × qA} : qcell a x f = (-10002, qfail a 0) := by
  unfold qcell
  rw [qci_none hn h]
theorem gMA.eq {Y : gL} {mo : Nat} {σ τ : gS} {a : qA} {rs : List Nat} (h : gMA Y mo σ a) (hM : gLM Y mo) (he : gEq Y rs σ τ) (h2 : τ.1 mo 2 = σ.1 mo 2) (h16 : 16 ∉ rs) (h17 : 17 ∉ rs) (h18 : 18 ∉ rs) : gMA Y mo τ a := ⟨h.1.eq hM he h16, h.2.1.eq hM he h2 h17, by rw [he.at (gM3 hM) h18]; exact h.2.2⟩
theorem gMA.fail {Y : gL} {mo : Nat} {σ : gS} {a : qA} (h : gMA Y mo σ a) (hM : gLM Y mo) {k : Nat} : gMA Y mo (uI σ (gF Y mo 3) k (σ.1 (gF Y mo 3) k + 1)) (qfail a k) := by
  refine ⟨h.1.put (gM3 hM) (by decide) hM, ⟨h.2.1.1, ?_, fun j i hj hi => ?_⟩, ?_⟩
  · rw [uI_ne (gK_ne (gM0 hM) (gM3 hM) (by decide))]
    exact h.2.1.2.1
  · rw [uI_ne (gK_ne (gM2 hM) (gM3 hM) (by decide))]
    exact h.2.1.2.2 j i hj hi
  · rw [h.2.2]
    funext j
    show (uI σ (gF Y mo 3) k _).1 (gF Y mo 3) j = qup a.2.2.2.2 k _ j
    unfold qup
    by_cases e : j = k
    · subst e
      rw [uI_at, if_pos rfl]
    · rw [uI_off e, if_neg e, h.2.2]
theorem qmk_bit (p : Nat → Bool) {d : Nat} (hd : d < 32) : ∀ k, k ≤ 32 → (qt (qmk p k) d = true ↔ d < k ∧ p d = true)
  | 0, _ => by simp [qmk, qt_0 d hd]
  | k + 1, hk => by
    have ih := qmk_bit p hd k (by omega)
    rw [qmk, qt_or _ _ hd, Bool.or_eq_true, ih]
    by_cases h : p k = true
    · rw [if_pos h, qt_qb (by omega) hd]
      simp only [decide_eq_true_eq]
      constructor
      · rintro (⟨h1, h2⟩ | rfl)
        · exact ⟨by omega, h2⟩
        · exact ⟨by omega, h⟩
      · rintro ⟨h1, h2⟩
        by_cases e : d = k
        · exact Or.inr e
        · exact Or.inl ⟨by omega, h2⟩
    · rw [if_neg h, qt_0 d hd]
      constructor
      · rintro (⟨h1, h2⟩ | q)
        · exact ⟨by omega, h2⟩
        · cases q
      · rintro ⟨h1, h2⟩
        by_cases e : d = k
        · subst e; exact absurd h2 h
        · exact Or.inl ⟨by omega, h2⟩
theorem qset_bit {g : qG} (hn : qn g ≤ 12) {c d : Nat} (hc : c < qn g) (hd : d < 32) : qt (qset g c) d = true ↔ d < qn g ∧ (qall g c d = true ∨ d = c) := by
  unfold qset
  rw [qmk_bit _ hd _ (by omega)]
  simp
/-- only the cells' bits of a set matter -/
theorem qwk_congr {g : qG} {s1 s2 : Int32} {r : Nat → Int32} (h : ∀ d, d < qn g → qt s1 d = qt s2 d) : ∀ k, k ≤ qm g → qwk g s1 r k = qwk g s2 r k
  | 0, _ => rfl
  | k + 1, hk => by
    have ih := qwk_congr (r := r) h k (by omega)
    show (if qfn g (qwk g s1 r k).1 (qwk g s1 r k).2 (qo g k) = true then _ else _) = (if qfn g (qwk g s2 r k).1 (qwk g s2 r k).2 (qo g k) = true then _ else _)
    rw [ih, h _ (qm_lt (g := g) (by omega))]
theorem qrt_congr {n : Nat} {s1 s2 : Int32} {r : Nat → Int32} (h : ∀ d, d < n → qt s1 d = qt s2 d) : qrt r n s1 = qrt r n s2 := by
  unfold qrt
  rw [qwk_congr (g := qg r n) h _ (Nat.le_refl _)]
theorem qcl_set {g : qG} (hn : qn g ≤ 12) {c : Nat} (hc : c < qn g) : qcl g (qset g c) := by
  intro x s hx hs hs12 hb
  have h1 := (qset_bit hn hc (d := x) (by omega)).mp hb
  have h2 : qt (qdir g x) s = true := (qdir_bit g x hs12).mpr hs
  have h3 : s < qn g := qdir_lt hn (by omega) h2
  refine (qset_bit hn hc (by omega)).mpr ⟨h3, Or.inl ?_⟩
  rcases h1.2 with h | h
  · exact qall_tr hx h (qall_dir h2)
  · subst h
    exact qall_dir h2
theorem qg_sv {r : Nat → Int32} {n : Nat} : qg (qsv r) n = qg r n := qg_up (by intro c; omega)
end
section
/-! ===== rows that editing lays ===== -/
theorem qRI_by {r r' : Nat → Int32} {n n' B : Nat} (h : qRI r n B) (h0 : r' 0 = nI n') (hn' : n' ≤ 12) (h1 : r' 1 = 0 ∨ r' 1 = 1) (h2 : r' 2 = r 2) (h4 : ∃ k, k ≤ 12 ∧ r' 4 = nI k) (hb : ∀ c, c < n' → (∃ d, d < n ∧ ∀ f, f < 10 → r' (17 + 10 * c + f) = r (17 + 10 * d + f)) ∨ (r' (17 + 10 * c + 5) = 0 ∧ (∃ v, v < 10 ∧ r' (17 + 10 * c + 0) = nI v) ∧ (∃ x, x < 110 ∧ r' (17 + 10 * c + 2) = nI x) ∧ ∃ y, y < 110 ∧ r' (17 + 10 * c + 3) = nI y)) : qRI r' n' B := by
  obtain ⟨g0, g1, g2, ⟨q, v1, v2, v3⟩, g4, g5⟩ := h
  refine ⟨h0, hn', h1, ⟨q, v1, by rw [h2]; exact v2, fun c hc => ?_⟩, h4, fun c hc => ?_⟩
  · rcases hb c hc with ⟨d, hd, hf⟩ | ⟨hz, -⟩
    · obtain ⟨u, hu, hv⟩ := v3 d hd
      exact ⟨u, hu, by rw [hf 5 (by omega)]; exact hv⟩
    · exact ⟨0, Nat.zero_le q, hz⟩
  · rcases hb c hc with ⟨d, hd, hf⟩ | ⟨hz, w1, w2, w3⟩
    · have k := g5 d hd
      unfold qCI at k ⊢
      rw [hf 0 (by omega), hf 2 (by omega), hf 3 (by omega), hf 4 (by omega), hf 5 (by omega), hf 6 (by omega), hf 7 (by omega)]
      exact k
    · exact ⟨w1, w2, w3, fun q => absurd hz q⟩
theorem qRI_sv {r : Nat → Int32} {n B : Nat} (h : qRI r n B) : qRI (qsv r) n B := qRI_by h h.1 h.2.1 h.2.2.1 rfl ⟨0, by omega, rfl⟩ (fun c hc => Or.inl ⟨c, hc, fun f _ => qup_off (by omega)⟩)
theorem qsv_4 {r : Nat → Int32} : qsv r 4 = 0 := rfl
theorem qdef_at {r : Nat → Int32} {c : Nat} {v op x y : Int32} : qdef r c v op x y (17 + 10 * c + 0) = v ∧ qdef r c v op x y (17 + 10 * c + 1) = op ∧ qdef r c v op x y (17 + 10 * c + 2) = x ∧ qdef r c v op x y (17 + 10 * c + 3) = y ∧ qdef r c v op x y (17 + 10 * c + 4) = 0 ∧ qdef r c v op x y (17 + 10 * c + 5) = 0 ∧ qdef r c v op x y (17 + 10 * c + 6) = 0 ∧ qdef r c v op x y (17 + 10 * c + 7) = 0 := by
  unfold qdef
  refine ⟨?_, ?_, ?_, ?_, ?_, ?_, ?_, qup_at⟩
  · iterate 7 rw [qup_off (by omega)]
    exact qup_at
  · iterate 6 rw [qup_off (by omega)]
    exact qup_at
  · iterate 5 rw [qup_off (by omega)]
    exact qup_at
  · iterate 4 rw [qup_off (by omega)]
    exact qup_at
  · iterate 3 rw [qup_off (by omega)]
    exact qup_at
  · iterate 2 rw [qup_off (by omega)]
    exact qup_at
  · rw [qup_off (by omega)]
    exact qup_at
theorem qdef_off {r : Nat → Int32} {c j : Nat} {v op x y : Int32} (h : j < 17 + 10 * c ∨ 17 + 10 * c + 8 ≤ j) : qdef r c v op x y j = r j := by
  unfold qdef
  iterate 8 rw [qup_off (by omega)]
theorem qn10 {v : Int32} {m : Nat} {M : Int32} (hM : M = nI m) (hm : m < 1000) (h : ¬ v < 0 ∧ ¬ M < v) : ∃ k, k < m + 1 ∧ v = nI k := by
  obtain ⟨k, hk, rfl⟩ := nI_of h.1
  subst hM
  refine ⟨k, ?_, rfl⟩
  have h2 := h.2
  rw [nI_ltI (by omega) hk] at h2
  omega
theorem qRI_def {r : Nat → Int32} {n B c : Nat} {v op x y : Int32} (h : qRI r n B) (hc : c < n) (hv : ¬ v < 0 ∧ ¬ 9 < v) (hx : ¬ x < 0 ∧ ¬ 109 < x) (hy : ¬ y < 0 ∧ ¬ 109 < y) : qRI (qdef r c v op x y) n B := by
  obtain ⟨k, hk, e1⟩ := qn10 (m := 9) rfl (by omega) hv
  obtain ⟨a, ha, e2⟩ := qn10 (m := 109) rfl (by omega) hx
  obtain ⟨b, hb, e3⟩ := qn10 (m := 109) rfl (by omega) hy
  obtain ⟨d0, d1, d2, d3, d4, d5, d6, d7⟩ := qdef_at (r := r) (c := c) (v := v) (op := op) (x := x) (y := y)
  refine qRI_by h ((qdef_off (by omega)).trans h.1) h.2.1 (by rw [qdef_off (by omega)]; exact h.2.2.1) (qdef_off (by omega)) (by rw [qdef_off (by omega)]; exact h.2.2.2.2.1) (fun d hd => ?_)
  by_cases e : d = c
  · subst e
    exact Or.inr ⟨d5, ⟨k, hk, by rw [d0]; exact e1⟩, ⟨a, ha, by rw [d2]; exact e2⟩, ⟨b, hb, by rw [d3]; exact e3⟩⟩
  · exact Or.inl ⟨d, hd, fun f hf => qdef_off (by omega)⟩
theorem qadd1_at {r : Nat → Int32} {n : Nat} {v op x y : Int32} {f : Nat} (hf : f < 8) : qadd1 r n v op x y (17 + 10 * n + f) = qdef (qsv r) n v op x y (17 + 10 * n + f) := by
  unfold qadd1
  rw [qup_off (by omega), qup_off (by omega)]
theorem qadd1_8 {r : Nat → Int32} {n : Nat} {v op x y : Int32} : qadd1 r n v op x y (17 + 10 * n + 8) = 0 := by
  unfold qadd1
  rw [qup_off (by omega), qup_at]
theorem qadd1_0 {r : Nat → Int32} {n : Nat} {v op x y : Int32} : qadd1 r n v op x y 0 = nI (n + 1) := by
  unfold qadd1
  rw [qup_at]
theorem qadd1_off {r : Nat → Int32} {n j : Nat} {v op x y : Int32} (h0 : j ≠ 0) (h : j < 17 + 10 * n ∨ 17 + 10 * n + 10 ≤ j) : qadd1 r n v op x y j = qsv r j := by
  unfold qadd1
  rw [qup_off h0, qup_off (by omega), qdef_off (by omega)]
theorem qRI_add {r : Nat → Int32} {n B : Nat} {v op x y : Int32} (h : qRI r n B) (hn : n < 12) (hv : ¬ v < 0 ∧ ¬ 9 < v) (hx : ¬ x < 0 ∧ ¬ 109 < x) (hy : ¬ y < 0 ∧ ¬ 109 < y) : qRI (qadd1 r n v op x y) (n + 1) B := by
  obtain ⟨k, hk, e1⟩ := qn10 (m := 9) rfl (by omega) hv
  obtain ⟨a, ha, e2⟩ := qn10 (m := 109) rfl (by omega) hx
  obtain ⟨b, hb, e3⟩ := qn10 (m := 109) rfl (by omega) hy
  obtain ⟨d0, d1, d2, d3, d4, d5, d6, d7⟩ := qdef_at (r := qsv r) (c := n) (v := v) (op := op) (x := x) (y := y)
  refine qRI_by (qRI_sv h) qadd1_0 (by omega) (by rw [qadd1_off (by omega) (by omega)]; exact h.2.2.1) (qadd1_off (by omega) (by omega)) ⟨0, by omega, by rw [qadd1_off (by omega) (by omega)]; rfl⟩ (fun d hd => ?_)
  by_cases e : d = n
  · subst e
    exact Or.inr ⟨by rw [qadd1_at (by omega)]; exact d5, ⟨k, hk, by rw [qadd1_at (by omega), d0]; exact e1⟩, ⟨a, ha, by rw [qadd1_at (by omega), d2]; exact e2⟩, ⟨b, hb, by rw [qadd1_at (by omega), d3]; exact e3⟩⟩
  · exact Or.inl ⟨d, by omega, fun f hf => qadd1_off (by omega) (by omega)⟩
theorem qshl_low {r : Nat → Int32} {a b j : Nat} (h : j < 17) : qshl r a b j = r j := if_neg (by omega)
theorem qshr_low {r : Nat → Int32} {a b j : Nat} (h : j < 17) : qshr r a b j = r j := if_neg (by omega)
theorem qlay_low {r f : Nat → Int32} {t k j : Nat} (h : j < 17) : qlay r t f k j = r j := if_neg (by omega)
theorem qshl_blk {r : Nat → Int32} {a b c f : Nat} (hf : f < 10) : qshl r a b (17 + 10 * c + f) = if a ≤ c ∧ c < b then r (17 + 10 * (c + 1) + f) else r (17 + 10 * c + f) := by
  unfold qshl
  by_cases h : a ≤ c ∧ c < b
  · rw [if_pos (by omega), if_pos h, show 17 + 10 * c + f + 10 = 17 + 10 * (c + 1) + f by omega]
  · rw [if_neg (by omega), if_neg h]
theorem qshr_blk {r : Nat → Int32} {a b c f : Nat} (hf : f < 10) : qshr r a b (17 + 10 * c + f) = if b < c ∧ c ≤ a then r (17 + 10 * (c - 1) + f) else r (17 + 10 * c + f) := by
  unfold qshr
  by_cases h : b < c ∧ c ≤ a
  · rw [if_pos (by omega), if_pos h, show 17 + 10 * c + f - 10 = 17 + 10 * (c - 1) + f by omega]
  · rw [if_neg (by omega), if_neg h]
theorem qlay_blk {r g : Nat → Int32} {t c f : Nat} (hf : f < 10) : qlay r t g 10 (17 + 10 * c + f) = if c = t then g f else r (17 + 10 * c + f) := by
  unfold qlay
  by_cases h : c = t
  · subst h
    rw [if_pos (by omega), if_pos rfl, show 17 + 10 * c + f - (17 + 10 * c) = f by omega]
  · rw [if_neg (by omega), if_neg h]
/-- where the cell at place d behind a move comes from -/
def qfrom (c t d : Nat) : Nat := if d = t then c else if c ≤ d ∧ d < t then d + 1 else if t < d ∧ d ≤ c then d - 1 else d
theorem qmv_blk {r : Nat → Int32} {c t d f : Nat} (hf : f < 10) : qmv r c t (17 + 10 * d + f) = r (17 + 10 * qfrom c t d + f) := by
  unfold qmv qfrom
  rw [qlay_blk hf]
  by_cases h : d = t
  · rw [if_pos h, if_pos h]
  · rw [if_neg h, if_neg h]
    by_cases hct : c < t
    · rw [if_pos hct, qshl_blk hf]
      by_cases h1 : c ≤ d ∧ d < t
      · rw [if_pos h1, if_pos h1]
      · rw [if_neg h1, if_neg h1, if_neg (by omega)]
    · rw [if_neg hct, qshr_blk hf]
      by_cases h1 : t < d ∧ d ≤ c
      · rw [if_pos h1, if_neg (by omega), if_pos h1]
      · rw [if_neg h1, if_neg (by omega), if_neg h1]
theorem qmv_low {r : Nat → Int32} {c t j : Nat} (h : j < 17) : qmv r c t j = r j := by
  unfold qmv
  rw [qlay_low h]
  split
  · exact qshl_low h
  · exact qshr_low h
theorem qRI_del {r : Nat → Int32} {n B c : Nat} (h : qRI r n B) (hc : c < n) : qRI (qshl (qup r 0 (nI (n - 1))) c (n - 1)) (n - 1) B := by
  have hn := h.2.1
  refine qRI_by h (by rw [qshl_low (by omega), qup_at]) (by omega) (by rw [qshl_low (by omega), qup_off (by omega)]; exact h.2.2.1) (by rw [qshl_low (by omega), qup_off (by omega)]) (by rw [qshl_low (by omega), qup_off (by omega)]; exact h.2.2.2.2.1) (fun d hd => Or.inl ?_)
  by_cases e : c ≤ d
  · exact ⟨d + 1, by omega, fun f hf => by rw [qshl_blk hf, if_pos ⟨e, hd⟩, qup_off (by omega)]⟩
  · exact ⟨d, by omega, fun f hf => by rw [qshl_blk hf, if_neg (by omega), qup_off (by omega)]⟩
theorem qfrom_lt {n c t d : Nat} (hc : c < n) (ht : t < n) (hd : d < n) : qfrom c t d < n := by
  unfold qfrom
  split
  · omega
  · split
    · omega
    · split <;> omega
theorem qRI_mv {r : Nat → Int32} {n B c t : Nat} (h : qRI r n B) (hc : c < n) (ht : t < n) : qRI (qmv r c t) n B := by
  have hn := h.2.1
  refine qRI_by h (by rw [qmv_low (by omega)]; exact h.1) hn (by rw [qmv_low (by omega)]; exact h.2.2.1) (qmv_low (by omega)) (by rw [qmv_low (by omega)]; exact h.2.2.2.2.1) (fun d hd => Or.inl ⟨qfrom c t d, qfrom_lt hc ht hd, fun f hf => qmv_blk hf⟩)
theorem qe01 {e : Int32} (h : ¬ e < 0 ∧ ¬ 1 < e) : e = 0 ∨ e = 1 := by
  obtain ⟨k, hk, rfl⟩ := qn10 (m := 1) rfl (by omega) h
  rcases (show k = 0 ∨ k = 1 by omega) with rfl | rfl
  · exact Or.inl rfl
  · exact Or.inr rfl
theorem qRI_set {r : Nat → Int32} {n B : Nat} {e : Int32} (h : qRI r n B) (he : e = 0 ∨ e = 1) : qRI (qup r 1 e) n B := qRI_by h ((qup_off (by omega)).trans h.1) h.2.1 (by rw [qup_at]; exact he) (qup_off (by omega)) (by rw [qup_off (by omega)]; exact h.2.2.2.2.1) (fun d hd => Or.inl ⟨d, hd, fun f hf => qup_off (by omega)⟩)
theorem qRI_eag {r : Nat → Int32} {n B : Nat} (h : qRI r n B) (hB : B + 12 < 2 ^ 30) (h4 : r 4 = 0) : qRI (qeag r n) n (B + 12) := by
  unfold qeag
  split
  · exact (qrt_inv h.2.1 hB h h4 (qcl_all _ h.2.1)).1
  · exact h.mono (by omega)
/-! ===== every call keeps what holds of states ===== -/
theorem qpush_I {P : Nat → Nat → Int32} {q : Nat} {r : Nat → Int32} {B : Nat} (hP : ∀ j, j < q → ∃ n, qRI (P j) n B) (hq : q ≤ 4) (hr : ∃ n, qRI r n B) : qpn q ≤ 4 ∧ ∀ j, j < qpn q → ∃ n, qRI (qpush P q r j) n B := by
  unfold qpn qpush
  by_cases e : q = 4
  · rw [if_pos e, if_pos e]
    refine ⟨Nat.le_refl 4, fun j hj => ?_⟩
    by_cases h3 : j < 3
    · simp only [if_pos h3]
      exact hP (j + 1) (by omega)
    · simp only [if_neg h3]
      exact hr
  · rw [if_neg e, if_neg e]
    refine ⟨by omega, fun j hj => ?_⟩
    by_cases h3 : j < q
    · simp only [if_pos h3]
      exact hP j h3
    · simp only [if_neg h3]
      exact hr
theorem qAI_mono {a : qA} {B B' : Nat} (h : qAI a B) (hB : B ≤ B') : qAI a B' := ⟨h.1.mono hB, h.2.1, fun j hj => by
  obtain ⟨n, hn⟩ := h.2.2 j hj
  exact ⟨n, hn.mono hB⟩⟩
theorem qAI_save {a : qA} {B : Nat} {r : Nat → Int32} {n : Nat} (h : qAI a B) (hr : qRI r n (B + 12)) : qAI (qsave a r n) (B + 12) := by
  have h1 := qpush_I (r := a.1) (B := B + 12) (fun j hj => by obtain ⟨m, hm⟩ := h.2.2 j hj; exact ⟨m, hm.mono (by omega)⟩) h.2.1 ⟨_, h.1.mono (by omega)⟩
  exact ⟨hr, h1.1, h1.2⟩
theorem qAI_fail {a : qA} {B k : Nat} (h : qAI a B) : qAI (qfail a k) B := h
theorem qback_I {a : qA} {B : Nat} (h : qAI a B) (hq : a.2.2.2.1 ≠ 0) : qRI (qback a) (qback a 0).toNatClampNeg B := by
  obtain ⟨n, hn⟩ := h.2.2 (a.2.2.2.1 - 1) (by omega)
  have low : ∀ j, j < 137 → qback a j = a.2.2.1 (a.2.2.2.1 - 1) j := fun j hj => if_pos hj
  have e0 : (qback a 0).toNatClampNeg = n := by
    rw [low 0 (by omega), hn.1]
    exact nI_clamp (by have := hn.2.1; omega)
  rw [e0]
  have hn12 := hn.2.1
  exact qRI_by hn ((low 0 (by omega)).trans hn.1) hn12 (by rw [low 1 (by omega)]; exact hn.2.2.1) (low 2 (by omega)) (by rw [low 4 (by omega)]; exact hn.2.2.2.2.1) (fun d hd => Or.inl ⟨d, hd, fun f hf => low _ (by omega)⟩)
end
