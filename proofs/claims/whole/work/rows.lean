section
-- ===== PART A: goes FIRST, ahead of the names: the tables' words, and 'selects' of the private methods out of them =====
/-- a private method of a class that the tables say can be made, by its rows of tables_1 -/
def lw_okq (q : MethodName × Nat) : Prop := (q.1.cls ≠ "java/lang/invoke/MethodHandle" ∧ q.1.cls ≠ "java/lang/invoke/VarHandle") ∧ Cond.instantiable q.1.cls q.2 ∈ tables_1 ∧ Cond.privateMethod q.1 ∈ tables_1 ∧ Cond.instanceMethod q.1 ∈ tables_1
theorem lw_p0 : lw_okq (⟨"FaceGlass", "troubleOfCells", "(IIII)I"⟩, 8) := ⟨⟨by decide +kernel, by decide +kernel⟩, List.mem_of_getElem? (i := 10) (by decide +kernel), List.mem_of_getElem? (i := 143) (by decide +kernel), List.mem_of_getElem? (i := 144) (by decide +kernel)⟩
theorem lw_p1 : lw_okq (⟨"FaceGlass", "noted", "(I)I"⟩, 8) := ⟨⟨by decide +kernel, by decide +kernel⟩, List.mem_of_getElem? (i := 10) (by decide +kernel), List.mem_of_getElem? (i := 165) (by decide +kernel), List.mem_of_getElem? (i := 166) (by decide +kernel)⟩
theorem lw_p2 : lw_okq (⟨"FaceGlass", "troubleOfVisits", "(IIIIZ)I"⟩, 8) := ⟨⟨by decide +kernel, by decide +kernel⟩, List.mem_of_getElem? (i := 10) (by decide +kernel), List.mem_of_getElem? (i := 211) (by decide +kernel), List.mem_of_getElem? (i := 212) (by decide +kernel)⟩
theorem lw_p3 : lw_okq (⟨"FaceGlass", "takeRow", "(LFaceGlass$Sheet;II)Z"⟩, 8) := ⟨⟨by decide +kernel, by decide +kernel⟩, List.mem_of_getElem? (i := 10) (by decide +kernel), List.mem_of_getElem? (i := 215) (by decide +kernel), List.mem_of_getElem? (i := 216) (by decide +kernel)⟩
theorem lw_p4 : lw_okq (⟨"FaceGlass", "firstWrong", "()I"⟩, 8) := ⟨⟨by decide +kernel, by decide +kernel⟩, List.mem_of_getElem? (i := 10) (by decide +kernel), List.mem_of_getElem? (i := 219) (by decide +kernel), List.mem_of_getElem? (i := 220) (by decide +kernel)⟩
theorem lw_p5 : lw_okq (⟨"FaceGlass$Hall", "changePlaces", "(I)V"⟩, 5) := ⟨⟨by decide +kernel, by decide +kernel⟩, List.mem_of_getElem? (i := 66) (by decide +kernel), List.mem_of_getElem? (i := 232) (by decide +kernel), List.mem_of_getElem? (i := 233) (by decide +kernel)⟩
theorem lw_p6 : lw_okq (⟨"FaceGlass", "answerOfHall", "(I)I"⟩, 8) := ⟨⟨by decide +kernel, by decide +kernel⟩, List.mem_of_getElem? (i := 10) (by decide +kernel), List.mem_of_getElem? (i := 236) (by decide +kernel), List.mem_of_getElem? (i := 237) (by decide +kernel)⟩
theorem lw_p7 : lw_okq (⟨"FaceGlass$Hall", "firstAstray", "()I"⟩, 5) := ⟨⟨by decide +kernel, by decide +kernel⟩, List.mem_of_getElem? (i := 66) (by decide +kernel), List.mem_of_getElem? (i := 248) (by decide +kernel), List.mem_of_getElem? (i := 249) (by decide +kernel)⟩
theorem lw_p8 : lw_okq (⟨"FaceGlass", "answerOfHead", "(II)I"⟩, 8) := ⟨⟨by decide +kernel, by decide +kernel⟩, List.mem_of_getElem? (i := 10) (by decide +kernel), List.mem_of_getElem? (i := 256) (by decide +kernel), List.mem_of_getElem? (i := 257) (by decide +kernel)⟩
theorem lw_p9 : lw_okq (⟨"FaceGlass", "bitIfAllSo", "(I)I"⟩, 8) := ⟨⟨by decide +kernel, by decide +kernel⟩, List.mem_of_getElem? (i := 10) (by decide +kernel), List.mem_of_getElem? (i := 284) (by decide +kernel), List.mem_of_getElem? (i := 285) (by decide +kernel)⟩
theorem lw_p10 : lw_okq (⟨"FaceGlass", "allSo", "()Z"⟩, 8) := ⟨⟨by decide +kernel, by decide +kernel⟩, List.mem_of_getElem? (i := 10) (by decide +kernel), List.mem_of_getElem? (i := 288) (by decide +kernel), List.mem_of_getElem? (i := 289) (by decide +kernel)⟩
theorem lw_p11 : lw_okq (⟨"FaceGlass", "troubleOfOne", "(IIIII)I"⟩, 8) := ⟨⟨by decide +kernel, by decide +kernel⟩, List.mem_of_getElem? (i := 10) (by decide +kernel), List.mem_of_getElem? (i := 304) (by decide +kernel), List.mem_of_getElem? (i := 305) (by decide +kernel)⟩
theorem lw_p12 : lw_okq (⟨"FaceGlass", "troubleOfNew", "(III)I"⟩, 8) := ⟨⟨by decide +kernel, by decide +kernel⟩, List.mem_of_getElem? (i := 10) (by decide +kernel), List.mem_of_getElem? (i := 334) (by decide +kernel), List.mem_of_getElem? (i := 335) (by decide +kernel)⟩
theorem lw_p13 : lw_okq (⟨"FaceGlass", "troubleOfPut", "(II)I"⟩, 8) := ⟨⟨by decide +kernel, by decide +kernel⟩, List.mem_of_getElem? (i := 10) (by decide +kernel), List.mem_of_getElem? (i := 351) (by decide +kernel), List.mem_of_getElem? (i := 352) (by decide +kernel)⟩
theorem lw_p14 : lw_okq (⟨"FaceGlass", "troubleOfCopy", "(IIIII)I"⟩, 8) := ⟨⟨by decide +kernel, by decide +kernel⟩, List.mem_of_getElem? (i := 10) (by decide +kernel), List.mem_of_getElem? (i := 367) (by decide +kernel), List.mem_of_getElem? (i := 368) (by decide +kernel)⟩
theorem lw_p15 : lw_okq (⟨"FaceGlass", "spysTelling", "(I)I"⟩, 8) := ⟨⟨by decide +kernel, by decide +kernel⟩, List.mem_of_getElem? (i := 10) (by decide +kernel), List.mem_of_getElem? (i := 378) (by decide +kernel), List.mem_of_getElem? (i := 379) (by decide +kernel)⟩
def lw_privs_1 : List (MethodName × Nat) := [(⟨"FaceGlass", "troubleOfCells", "(IIII)I"⟩, 8), (⟨"FaceGlass", "noted", "(I)I"⟩, 8), (⟨"FaceGlass", "troubleOfVisits", "(IIIIZ)I"⟩, 8), (⟨"FaceGlass", "takeRow", "(LFaceGlass$Sheet;II)Z"⟩, 8), (⟨"FaceGlass", "firstWrong", "()I"⟩, 8), (⟨"FaceGlass$Hall", "changePlaces", "(I)V"⟩, 5), (⟨"FaceGlass", "answerOfHall", "(I)I"⟩, 8), (⟨"FaceGlass$Hall", "firstAstray", "()I"⟩, 5), (⟨"FaceGlass", "answerOfHead", "(II)I"⟩, 8), (⟨"FaceGlass", "bitIfAllSo", "(I)I"⟩, 8), (⟨"FaceGlass", "allSo", "()Z"⟩, 8), (⟨"FaceGlass", "troubleOfOne", "(IIIII)I"⟩, 8), (⟨"FaceGlass", "troubleOfNew", "(III)I"⟩, 8), (⟨"FaceGlass", "troubleOfPut", "(II)I"⟩, 8), (⟨"FaceGlass", "troubleOfCopy", "(IIIII)I"⟩, 8), (⟨"FaceGlass", "spysTelling", "(I)I"⟩, 8)]
theorem lw_r1 : ∀ q ∈ lw_privs_1, lw_okq q := List.forall_mem_cons.mpr ⟨lw_p0, List.forall_mem_cons.mpr ⟨lw_p1, List.forall_mem_cons.mpr ⟨lw_p2, List.forall_mem_cons.mpr ⟨lw_p3, List.forall_mem_cons.mpr ⟨lw_p4, List.forall_mem_cons.mpr ⟨lw_p5, List.forall_mem_cons.mpr ⟨lw_p6, List.forall_mem_cons.mpr ⟨lw_p7, List.forall_mem_cons.mpr ⟨lw_p8, List.forall_mem_cons.mpr ⟨lw_p9, List.forall_mem_cons.mpr ⟨lw_p10, List.forall_mem_cons.mpr ⟨lw_p11, List.forall_mem_cons.mpr ⟨lw_p12, List.forall_mem_cons.mpr ⟨lw_p13, List.forall_mem_cons.mpr ⟨lw_p14, List.forall_mem_cons.mpr ⟨lw_p15, fun _ h => absurd h List.not_mem_nil⟩⟩⟩⟩⟩⟩⟩⟩⟩⟩⟩⟩⟩⟩⟩⟩
theorem lw_p16 : lw_okq (⟨"FaceGlass", "leaveTrace", "(I)V"⟩, 8) := ⟨⟨by decide +kernel, by decide +kernel⟩, List.mem_of_getElem? (i := 10) (by decide +kernel), List.mem_of_getElem? (i := 382) (by decide +kernel), List.mem_of_getElem? (i := 383) (by decide +kernel)⟩
theorem lw_p17 : lw_okq (⟨"FaceGlass", "lordsTelling", "(I)I"⟩, 8) := ⟨⟨by decide +kernel, by decide +kernel⟩, List.mem_of_getElem? (i := 10) (by decide +kernel), List.mem_of_getElem? (i := 386) (by decide +kernel), List.mem_of_getElem? (i := 387) (by decide +kernel)⟩
theorem lw_p18 : lw_okq (⟨"FaceGlass", "headsTelling", "(I)I"⟩, 8) := ⟨⟨by decide +kernel, by decide +kernel⟩, List.mem_of_getElem? (i := 10) (by decide +kernel), List.mem_of_getElem? (i := 390) (by decide +kernel), List.mem_of_getElem? (i := 391) (by decide +kernel)⟩
theorem lw_p19 : lw_okq (⟨"FaceGlass", "answerOfKind", "(II)I"⟩, 8) := ⟨⟨by decide +kernel, by decide +kernel⟩, List.mem_of_getElem? (i := 10) (by decide +kernel), List.mem_of_getElem? (i := 402) (by decide +kernel), List.mem_of_getElem? (i := 403) (by decide +kernel)⟩
theorem lw_p20 : lw_okq (⟨"FaceGlassModel", "against", "(IIII)I"⟩, 22) := ⟨⟨by decide +kernel, by decide +kernel⟩, List.mem_of_getElem? (i := 418) (by decide +kernel), List.mem_of_getElem? (i := 504) (by decide +kernel), List.mem_of_getElem? (i := 505) (by decide +kernel)⟩
theorem lw_p21 : lw_okq (⟨"FaceGlassModel", "fails", "(I)I"⟩, 22) := ⟨⟨by decide +kernel, by decide +kernel⟩, List.mem_of_getElem? (i := 418) (by decide +kernel), List.mem_of_getElem? (i := 508) (by decide +kernel), List.mem_of_getElem? (i := 509) (by decide +kernel)⟩
theorem lw_p22 : lw_okq (⟨"FaceGlassModel", "readCourt", "(I)Z"⟩, 22) := ⟨⟨by decide +kernel, by decide +kernel⟩, List.mem_of_getElem? (i := 418) (by decide +kernel), List.mem_of_getElem? (i := 512) (by decide +kernel), List.mem_of_getElem? (i := 513) (by decide +kernel)⟩
theorem lw_p23 : lw_okq (⟨"FaceGlassModel", "isSign", "(II)Z"⟩, 22) := ⟨⟨by decide +kernel, by decide +kernel⟩, List.mem_of_getElem? (i := 418) (by decide +kernel), List.mem_of_getElem? (i := 516) (by decide +kernel), List.mem_of_getElem? (i := 517) (by decide +kernel)⟩
theorem lw_p24 : lw_okq (⟨"FaceGlassModel", "readHead", "(I)Z"⟩, 22) := ⟨⟨by decide +kernel, by decide +kernel⟩, List.mem_of_getElem? (i := 418) (by decide +kernel), List.mem_of_getElem? (i := 520) (by decide +kernel), List.mem_of_getElem? (i := 521) (by decide +kernel)⟩
theorem lw_p25 : lw_okq (⟨"FaceGlassModel", "digit", "(III)I"⟩, 22) := ⟨⟨by decide +kernel, by decide +kernel⟩, List.mem_of_getElem? (i := 418) (by decide +kernel), List.mem_of_getElem? (i := 524) (by decide +kernel), List.mem_of_getElem? (i := 525) (by decide +kernel)⟩
theorem lw_p26 : lw_okq (⟨"FaceGlassModel", "isHead", "(I)Z"⟩, 22) := ⟨⟨by decide +kernel, by decide +kernel⟩, List.mem_of_getElem? (i := 418) (by decide +kernel), List.mem_of_getElem? (i := 532) (by decide +kernel), List.mem_of_getElem? (i := 533) (by decide +kernel)⟩
theorem lw_p27 : lw_okq (⟨"FaceGlassModel", "lasts", "(I)I"⟩, 22) := ⟨⟨by decide +kernel, by decide +kernel⟩, List.mem_of_getElem? (i := 418) (by decide +kernel), List.mem_of_getElem? (i := 536) (by decide +kernel), List.mem_of_getElem? (i := 537) (by decide +kernel)⟩
theorem lw_p28 : lw_okq (⟨"FaceGlassModel", "layVisits", "(IIII)I"⟩, 22) := ⟨⟨by decide +kernel, by decide +kernel⟩, List.mem_of_getElem? (i := 418) (by decide +kernel), List.mem_of_getElem? (i := 558) (by decide +kernel), List.mem_of_getElem? (i := 559) (by decide +kernel)⟩
theorem lw_p29 : lw_okq (⟨"FaceGlassModel", "go", "()I"⟩, 22) := ⟨⟨by decide +kernel, by decide +kernel⟩, List.mem_of_getElem? (i := 418) (by decide +kernel), List.mem_of_getElem? (i := 562) (by decide +kernel), List.mem_of_getElem? (i := 563) (by decide +kernel)⟩
theorem lw_p30 : lw_okq (⟨"FaceGlassModel", "begin", "()V"⟩, 22) := ⟨⟨by decide +kernel, by decide +kernel⟩, List.mem_of_getElem? (i := 418) (by decide +kernel), List.mem_of_getElem? (i := 566) (by decide +kernel), List.mem_of_getElem? (i := 567) (by decide +kernel)⟩
theorem lw_p31 : lw_okq (⟨"FaceGlassModel", "visit", "(I)Z"⟩, 22) := ⟨⟨by decide +kernel, by decide +kernel⟩, List.mem_of_getElem? (i := 418) (by decide +kernel), List.mem_of_getElem? (i := 570) (by decide +kernel), List.mem_of_getElem? (i := 571) (by decide +kernel)⟩
def lw_privs_2 : List (MethodName × Nat) := [(⟨"FaceGlass", "leaveTrace", "(I)V"⟩, 8), (⟨"FaceGlass", "lordsTelling", "(I)I"⟩, 8), (⟨"FaceGlass", "headsTelling", "(I)I"⟩, 8), (⟨"FaceGlass", "answerOfKind", "(II)I"⟩, 8), (⟨"FaceGlassModel", "against", "(IIII)I"⟩, 22), (⟨"FaceGlassModel", "fails", "(I)I"⟩, 22), (⟨"FaceGlassModel", "readCourt", "(I)Z"⟩, 22), (⟨"FaceGlassModel", "isSign", "(II)Z"⟩, 22), (⟨"FaceGlassModel", "readHead", "(I)Z"⟩, 22), (⟨"FaceGlassModel", "digit", "(III)I"⟩, 22), (⟨"FaceGlassModel", "isHead", "(I)Z"⟩, 22), (⟨"FaceGlassModel", "lasts", "(I)I"⟩, 22), (⟨"FaceGlassModel", "layVisits", "(IIII)I"⟩, 22), (⟨"FaceGlassModel", "go", "()I"⟩, 22), (⟨"FaceGlassModel", "begin", "()V"⟩, 22), (⟨"FaceGlassModel", "visit", "(I)Z"⟩, 22)]
theorem lw_r2 : ∀ q ∈ lw_privs_2, lw_okq q := List.forall_mem_cons.mpr ⟨lw_p16, List.forall_mem_cons.mpr ⟨lw_p17, List.forall_mem_cons.mpr ⟨lw_p18, List.forall_mem_cons.mpr ⟨lw_p19, List.forall_mem_cons.mpr ⟨lw_p20, List.forall_mem_cons.mpr ⟨lw_p21, List.forall_mem_cons.mpr ⟨lw_p22, List.forall_mem_cons.mpr ⟨lw_p23, List.forall_mem_cons.mpr ⟨lw_p24, List.forall_mem_cons.mpr ⟨lw_p25, List.forall_mem_cons.mpr ⟨lw_p26, List.forall_mem_cons.mpr ⟨lw_p27, List.forall_mem_cons.mpr ⟨lw_p28, List.forall_mem_cons.mpr ⟨lw_p29, List.forall_mem_cons.mpr ⟨lw_p30, List.forall_mem_cons.mpr ⟨lw_p31, fun _ h => absurd h List.not_mem_nil⟩⟩⟩⟩⟩⟩⟩⟩⟩⟩⟩⟩⟩⟩⟩⟩
theorem lw_p32 : lw_okq (⟨"FaceGlassModel", "change", "(I)V"⟩, 22) := ⟨⟨by decide +kernel, by decide +kernel⟩, List.mem_of_getElem? (i := 418) (by decide +kernel), List.mem_of_getElem? (i := 574) (by decide +kernel), List.mem_of_getElem? (i := 575) (by decide +kernel)⟩
theorem lw_p33 : lw_okq (⟨"FaceGlassModel", "tellVisits", "(I)I"⟩, 22) := ⟨⟨by decide +kernel, by decide +kernel⟩, List.mem_of_getElem? (i := 418) (by decide +kernel), List.mem_of_getElem? (i := 578) (by decide +kernel), List.mem_of_getElem? (i := 579) (by decide +kernel)⟩
theorem lw_p34 : lw_okq (⟨"FaceGlassModel", "atHome", "()I"⟩, 22) := ⟨⟨by decide +kernel, by decide +kernel⟩, List.mem_of_getElem? (i := 418) (by decide +kernel), List.mem_of_getElem? (i := 582) (by decide +kernel), List.mem_of_getElem? (i := 583) (by decide +kernel)⟩
theorem lw_p35 : lw_okq (⟨"FaceGlassModel", "home", "()I"⟩, 22) := ⟨⟨by decide +kernel, by decide +kernel⟩, List.mem_of_getElem? (i := 418) (by decide +kernel), List.mem_of_getElem? (i := 586) (by decide +kernel), List.mem_of_getElem? (i := 587) (by decide +kernel)⟩
theorem lw_p36 : lw_okq (⟨"FaceGlassModel", "firstAway", "()I"⟩, 22) := ⟨⟨by decide +kernel, by decide +kernel⟩, List.mem_of_getElem? (i := 418) (by decide +kernel), List.mem_of_getElem? (i := 590) (by decide +kernel), List.mem_of_getElem? (i := 591) (by decide +kernel)⟩
theorem lw_p37 : lw_okq (⟨"FaceGlassModel", "worn", "()I"⟩, 22) := ⟨⟨by decide +kernel, by decide +kernel⟩, List.mem_of_getElem? (i := 418) (by decide +kernel), List.mem_of_getElem? (i := 594) (by decide +kernel), List.mem_of_getElem? (i := 595) (by decide +kernel)⟩
theorem lw_p38 : lw_okq (⟨"FaceGlassModel", "fooled", "(I)I"⟩, 22) := ⟨⟨by decide +kernel, by decide +kernel⟩, List.mem_of_getElem? (i := 418) (by decide +kernel), List.mem_of_getElem? (i := 598) (by decide +kernel), List.mem_of_getElem? (i := 599) (by decide +kernel)⟩
theorem lw_p39 : lw_okq (⟨"FaceGlassModel", "findPlan", "(II)V"⟩, 22) := ⟨⟨by decide +kernel, by decide +kernel⟩, List.mem_of_getElem? (i := 418) (by decide +kernel), List.mem_of_getElem? (i := 606) (by decide +kernel), List.mem_of_getElem? (i := 607) (by decide +kernel)⟩
theorem lw_p40 : lw_okq (⟨"FaceGlassModel", "layRow", "(II)V"⟩, 22) := ⟨⟨by decide +kernel, by decide +kernel⟩, List.mem_of_getElem? (i := 418) (by decide +kernel), List.mem_of_getElem? (i := 610) (by decide +kernel), List.mem_of_getElem? (i := 611) (by decide +kernel)⟩
theorem lw_p41 : lw_okq (⟨"FaceGlassModel", "areSo", "()Z"⟩, 22) := ⟨⟨by decide +kernel, by decide +kernel⟩, List.mem_of_getElem? (i := 418) (by decide +kernel), List.mem_of_getElem? (i := 626) (by decide +kernel), List.mem_of_getElem? (i := 627) (by decide +kernel)⟩
theorem lw_p42 : lw_okq (⟨"FaceGlassModel", "areSoBehind", "(I)Z"⟩, 22) := ⟨⟨by decide +kernel, by decide +kernel⟩, List.mem_of_getElem? (i := 418) (by decide +kernel), List.mem_of_getElem? (i := 630) (by decide +kernel), List.mem_of_getElem? (i := 631) (by decide +kernel)⟩
theorem lw_p43 : lw_okq (⟨"FaceGlassModel", "lay", "(IIIII)I"⟩, 22) := ⟨⟨by decide +kernel, by decide +kernel⟩, List.mem_of_getElem? (i := 418) (by decide +kernel), List.mem_of_getElem? (i := 638) (by decide +kernel), List.mem_of_getElem? (i := 639) (by decide +kernel)⟩
theorem lw_p44 : lw_okq (⟨"FaceGlassModel", "lost", "(I)J"⟩, 22) := ⟨⟨by decide +kernel, by decide +kernel⟩, List.mem_of_getElem? (i := 418) (by decide +kernel), List.mem_of_getElem? (i := 670) (by decide +kernel), List.mem_of_getElem? (i := 671) (by decide +kernel)⟩
theorem lw_p45 : lw_okq (⟨"FaceGlassModel", "begins", "(I)V"⟩, 22) := ⟨⟨by decide +kernel, by decide +kernel⟩, List.mem_of_getElem? (i := 418) (by decide +kernel), List.mem_of_getElem? (i := 682) (by decide +kernel), List.mem_of_getElem? (i := 683) (by decide +kernel)⟩
def lw_privs_3 : List (MethodName × Nat) := [(⟨"FaceGlassModel", "change", "(I)V"⟩, 22), (⟨"FaceGlassModel", "tellVisits", "(I)I"⟩, 22), (⟨"FaceGlassModel", "atHome", "()I"⟩, 22), (⟨"FaceGlassModel", "home", "()I"⟩, 22), (⟨"FaceGlassModel", "firstAway", "()I"⟩, 22), (⟨"FaceGlassModel", "worn", "()I"⟩, 22), (⟨"FaceGlassModel", "fooled", "(I)I"⟩, 22), (⟨"FaceGlassModel", "findPlan", "(II)V"⟩, 22), (⟨"FaceGlassModel", "layRow", "(II)V"⟩, 22), (⟨"FaceGlassModel", "areSo", "()Z"⟩, 22), (⟨"FaceGlassModel", "areSoBehind", "(I)Z"⟩, 22), (⟨"FaceGlassModel", "lay", "(IIIII)I"⟩, 22), (⟨"FaceGlassModel", "lost", "(I)J"⟩, 22), (⟨"FaceGlassModel", "begins", "(I)V"⟩, 22)]
theorem lw_r3 : ∀ q ∈ lw_privs_3, lw_okq q := List.forall_mem_cons.mpr ⟨lw_p32, List.forall_mem_cons.mpr ⟨lw_p33, List.forall_mem_cons.mpr ⟨lw_p34, List.forall_mem_cons.mpr ⟨lw_p35, List.forall_mem_cons.mpr ⟨lw_p36, List.forall_mem_cons.mpr ⟨lw_p37, List.forall_mem_cons.mpr ⟨lw_p38, List.forall_mem_cons.mpr ⟨lw_p39, List.forall_mem_cons.mpr ⟨lw_p40, List.forall_mem_cons.mpr ⟨lw_p41, List.forall_mem_cons.mpr ⟨lw_p42, List.forall_mem_cons.mpr ⟨lw_p43, List.forall_mem_cons.mpr ⟨lw_p44, List.forall_mem_cons.mpr ⟨lw_p45, fun _ h => absurd h List.not_mem_nil⟩⟩⟩⟩⟩⟩⟩⟩⟩⟩⟩⟩⟩⟩
def lw_privs : List (MethodName × Nat) := lw_privs_1 ++ (lw_privs_2 ++ (lw_privs_3))
def lw_tbl : List Cond := k2_sels lw_privs ++ tables_1
theorem lw_privs_ok : ∀ q ∈ lw_privs, lw_okq q := by
  show ∀ q ∈ lw_privs_1 ++ (lw_privs_2 ++ (lw_privs_3)), lw_okq q
  exact List.forall_mem_append.mpr ⟨lw_r1, List.forall_mem_append.mpr ⟨lw_r2, lw_r3⟩⟩
end
section
def RX0 : String := "FaceGlass$Court"
def TX0 : u_T := fun k => match k with
  | 0 => ("FaceGlass$Court", "kind", "[I", true)
  | 1 => ("FaceGlass$Court", "wear", "[I", true)
  | 2 => ("FaceGlass$Court", "known", "[I", true)
  | _ => ("FaceGlass$Court", "count", "I", false)
def tyX0 : Nat → FieldType := fun k => match k with
  | 0 => .array .int
  | 1 => .array .int
  | 2 => .array .int
  | _ => .int
abbrev wsX00 : List Cond := u_ws RX0 TX0 4
theorem nmX0 : ∀ a, a < 4 → ∀ b, b < 4 → a ≠ b → (TX0 a).2.1 ≠ (TX0 b).2.1 := by decide +kernel
theorem tyX0_ok : ∀ k, k < 4 → parseFieldDescriptor (TX0 k).2.2.1 = some (tyX0 k) := by decide +kernel
abbrev cX0_init : ByteArray := prog_2_method_1_code
def yX0_init : MethodName := ⟨RX0, "<init>", "()V"⟩
abbrev cX0_has : ByteArray := prog_2_method_2_code
def yX0_has : MethodName := ⟨RX0, "has", "(I)Z"⟩
abbrev cX0_gather : ByteArray := prog_2_method_3_code
def yX0_gather : MethodName := ⟨RX0, "gather", "(LFaceGlass$Sheet;II)V"⟩
def RX1 : String := "FaceGlass$Hall"
def TX1 : u_T := fun k => match k with
  | 0 => ("FaceGlass$Hall", "worn", "[I", true)
  | 1 => ("FaceGlass$Hall", "taken", "[I", true)
  | 2 => ("FaceGlass$Hall", "lasts", "[I", true)
  | 3 => ("FaceGlass$Hall", "heads", "I", false)
  | _ => ("FaceGlass$Hall", "glass", "I", false)
def tyX1 : Nat → FieldType := fun k => match k with
  | 0 => .array .int
  | 1 => .array .int
  | 2 => .array .int
  | 3 => .int
  | _ => .int
abbrev wsX10 : List Cond := u_ws RX1 TX1 5
theorem nmX1 : ∀ a, a < 5 → ∀ b, b < 5 → a ≠ b → (TX1 a).2.1 ≠ (TX1 b).2.1 := by decide +kernel
theorem tyX1_ok : ∀ k, k < 5 → parseFieldDescriptor (TX1 k).2.2.1 = some (tyX1 k) := by decide +kernel
abbrev cX1_init : ByteArray := prog_3_method_1_code
def yX1_init : MethodName := ⟨RX1, "<init>", "()V"⟩
abbrev cX1_open : ByteArray := prog_3_method_2_code
def yX1_open : MethodName := ⟨RX1, "open", "(LFaceGlass$Court;)V"⟩
abbrev cX1_receives : ByteArray := prog_3_method_3_code
def yX1_receives : MethodName := ⟨RX1, "receives", "(I)Z"⟩
abbrev cX1_takesBack : ByteArray := prog_3_method_4_code
def yX1_takesBack : MethodName := ⟨RX1, "takesBack", "(I)V"⟩
abbrev cX1_changePlaces : ByteArray := prog_3_method_5_code
def yX1_changePlaces : MethodName := ⟨RX1, "changePlaces", "(I)V"⟩
abbrev cX1_ownWearers : ByteArray := prog_3_method_6_code
def yX1_ownWearers : MethodName := ⟨RX1, "ownWearers", "()I"⟩
abbrev cX1_visitsHome : ByteArray := prog_3_method_7_code
def yX1_visitsHome : MethodName := ⟨RX1, "visitsHome", "()I"⟩
abbrev cX1_firstAstray : ByteArray := prog_3_method_8_code
def yX1_firstAstray : MethodName := ⟨RX1, "firstAstray", "()I"⟩
abbrev cX1_mostTaken : ByteArray := prog_3_method_9_code
def yX1_mostTaken : MethodName := ⟨RX1, "mostTaken", "()I"⟩
abbrev cX1_fooling : ByteArray := prog_3_method_10_code
def yX1_fooling : MethodName := ⟨RX1, "fooling", "(II)I"⟩
def RX2 : String := "FaceGlass$Readings"
def TX2 : u_T := fun k => match k with
  | 0 => ("FaceGlass$Readings", "time", "[I", true)
  | 1 => ("FaceGlass$Readings", "head", "[I", true)
  | 2 => ("FaceGlass$Readings", "face", "[I", true)
  | _ => ("FaceGlass$Readings", "count", "I", false)
def tyX2 : Nat → FieldType := fun k => match k with
  | 0 => .array .int
  | 1 => .array .int
  | 2 => .array .int
  | _ => .int
abbrev wsX20 : List Cond := u_ws RX2 TX2 4
theorem nmX2 : ∀ a, a < 4 → ∀ b, b < 4 → a ≠ b → (TX2 a).2.1 ≠ (TX2 b).2.1 := by decide +kernel
theorem tyX2_ok : ∀ k, k < 4 → parseFieldDescriptor (TX2 k).2.2.1 = some (tyX2 k) := by decide +kernel
abbrev cX2_init : ByteArray := prog_4_method_1_code
def yX2_init : MethodName := ⟨RX2, "<init>", "()V"⟩
abbrev cX2_add : ByteArray := prog_4_method_2_code
def yX2_add : MethodName := ⟨RX2, "add", "(III)I"⟩
abbrev cX2_reachBeyond : ByteArray := prog_4_method_3_code
def yX2_reachBeyond : MethodName := ⟨RX2, "reachBeyond", "(I)Z"⟩
abbrev cX2_areSo : ByteArray := prog_4_method_4_code
def yX2_areSo : MethodName := ⟨RX2, "areSo", "(ILFaceGlass$Hall;)Z"⟩
def RX3 : String := "FaceGlass$Sheet"
def TX3 : u_T := fun k => match k with
  | 0 => ("FaceGlass$Sheet", "cells", "[I", true)
  | 1 => ("FaceGlass$Sheet", "lane", "I", false)
  | _ => ("FaceGlass$Sheet", "length", "I", false)
def tyX3 : Nat → FieldType := fun k => match k with
  | 0 => .array .int
  | 1 => .int
  | _ => .int
abbrev wsX30 : List Cond := u_ws RX3 TX3 3
theorem nmX3 : ∀ a, a < 3 → ∀ b, b < 3 → a ≠ b → (TX3 a).2.1 ≠ (TX3 b).2.1 := by decide +kernel
theorem tyX3_ok : ∀ k, k < 3 → parseFieldDescriptor (TX3 k).2.2.1 = some (tyX3 k) := by decide +kernel
abbrev cX3_init : ByteArray := prog_5_method_1_code
def yX3_init : MethodName := ⟨RX3, "<init>", "()V"⟩
abbrev cX3_isNothing : ByteArray := prog_5_method_2_code
def yX3_isNothing : MethodName := ⟨RX3, "isNothing", "()Z"⟩
abbrev cX3_renew : ByteArray := prog_5_method_3_code
def yX3_renew : MethodName := ⟨RX3, "renew", "(II)V"⟩
abbrev cX3_hasCells : ByteArray := prog_5_method_4_code
def yX3_hasCells : MethodName := ⟨RX3, "hasCells", "(II)Z"⟩
abbrev cX3_faultOfCells : ByteArray := prog_5_method_5_code
def yX3_faultOfCells : MethodName := ⟨RX3, "faultOfCells", "(III)I"⟩
def RX4 : String := "FaceGlass"
def TX4 : u_T := fun k => match k with
  | 0 => ("FaceGlass", "sheets", "[LFaceGlass$Sheet;", true)
  | 1 => ("FaceGlass", "heads", "LFaceGlass$Court;", true)
  | 2 => ("FaceGlass", "hall", "LFaceGlass$Hall;", true)
  | 3 => ("FaceGlass", "readings", "LFaceGlass$Readings;", true)
  | 4 => ("FaceGlass", "row", "[I", true)
  | 5 => ("FaceGlass", "told", "I", false)
  | 6 => ("FaceGlass", "traced", "I", false)
  | _ => ("FaceGlass", "latestFault", "I", false)
def tyX4 : Nat → FieldType := fun k => match k with
  | 0 => .array (.object "FaceGlass$Sheet")
  | 1 => .object "FaceGlass$Court"
  | 2 => .object "FaceGlass$Hall"
  | 3 => .object "FaceGlass$Readings"
  | 4 => .array .int
  | 5 => .int
  | 6 => .int
  | _ => .int
abbrev wsX40 : List Cond := u_ws RX4 TX4 8
theorem nmX4 : ∀ a, a < 8 → ∀ b, b < 8 → a ≠ b → (TX4 a).2.1 ≠ (TX4 b).2.1 := by decide +kernel
theorem tyX4_ok : ∀ k, k < 8 → parseFieldDescriptor (TX4 k).2.2.1 = some (tyX4 k) := by decide +kernel
abbrev cX4_init : ByteArray := prog_1_method_1_code
def yX4_init : MethodName := ⟨RX4, "<init>", "()V"⟩
abbrev cX4_court : ByteArray := prog_1_method_2_code
def yX4_court : MethodName := ⟨RX4, "court", "(IIII)I"⟩
abbrev cX4_ofHead : ByteArray := prog_1_method_3_code
def yX4_ofHead : MethodName := ⟨RX4, "ofHead", "(II)I"⟩
abbrev cX4_wear : ByteArray := prog_1_method_4_code
def yX4_wear : MethodName := ⟨RX4, "wear", "(II)I"⟩
abbrev cX4_knows : ByteArray := prog_1_method_5_code
def yX4_knows : MethodName := ⟨RX4, "knows", "(II)I"⟩
abbrev cX4_visits : ByteArray := prog_1_method_6_code
def yX4_visits : MethodName := ⟨RX4, "visits", "(IIIII)I"⟩
abbrev cX4_plan : ByteArray := prog_1_method_7_code
def yX4_plan : MethodName := ⟨RX4, "plan", "(III)I"⟩
abbrev cX4_reading : ByteArray := prog_1_method_8_code
def yX4_reading : MethodName := ⟨RX4, "reading", "(III)I"⟩
abbrev cX4_back : ByteArray := prog_1_method_9_code
def yX4_back : MethodName := ⟨RX4, "back", "(I)I"⟩
abbrev cX4_who : ByteArray := prog_1_method_10_code
def yX4_who : MethodName := ⟨RX4, "who", "(IIIII)I"⟩
abbrev cX4_kinds : ByteArray := prog_1_method_11_code
def yX4_kinds : MethodName := ⟨RX4, "kinds", "(IIIII)I"⟩
abbrev cX4_wears : ByteArray := prog_1_method_12_code
def yX4_wears : MethodName := ⟨RX4, "wears", "(IIIII)I"⟩
abbrev cX4_odds : ByteArray := prog_1_method_13_code
def yX4_odds : MethodName := ⟨RX4, "odds", "(IIII)J"⟩
abbrev cX4_sheet : ByteArray := prog_1_method_14_code
def yX4_sheet : MethodName := ⟨RX4, "sheet", "(III)I"⟩
abbrev cX4_lose : ByteArray := prog_1_method_15_code
def yX4_lose : MethodName := ⟨RX4, "lose", "(I)I"⟩
abbrev cX4_put : ByteArray := prog_1_method_16_code
def yX4_put : MethodName := ⟨RX4, "put", "(III)I"⟩
abbrev cX4_cell : ByteArray := prog_1_method_17_code
def yX4_cell : MethodName := ⟨RX4, "cell", "(III)J"⟩
abbrev cX4_copy : ByteArray := prog_1_method_18_code
def yX4_copy : MethodName := ⟨RX4, "copy", "(IIIII)I"⟩
abbrev cX4_tell : ByteArray := prog_1_method_19_code
def yX4_tell : MethodName := ⟨RX4, "tell", "(I)I"⟩
abbrev cX4_greet : ByteArray := prog_1_method_20_code
def yX4_greet : MethodName := ⟨RX4, "greet", "(I)I"⟩
abbrev cX4_as : ByteArray := prog_1_method_21_code
def yX4_as : MethodName := ⟨RX4, "as", "(II)I"⟩
abbrev cX4_trace : ByteArray := prog_1_method_22_code
def yX4_trace : MethodName := ⟨RX4, "trace", "()I"⟩
abbrev cX4_fault : ByteArray := prog_1_method_23_code
def yX4_fault : MethodName := ⟨RX4, "fault", "()I"⟩
abbrev cX4_many : ByteArray := prog_1_method_24_code
def yX4_many : MethodName := ⟨RX4, "many", "(I)I"⟩
abbrev cX4_noted : ByteArray := prog_1_method_25_code
def yX4_noted : MethodName := ⟨RX4, "noted", "(I)I"⟩
abbrev cX4_troubleOfCells : ByteArray := prog_1_method_26_code
def yX4_troubleOfCells : MethodName := ⟨RX4, "troubleOfCells", "(IIII)I"⟩
abbrev cX4_troubleOfVisits : ByteArray := prog_1_method_27_code
def yX4_troubleOfVisits : MethodName := ⟨RX4, "troubleOfVisits", "(IIIIZ)I"⟩
abbrev cX4_troubleOfOne : ByteArray := prog_1_method_28_code
def yX4_troubleOfOne : MethodName := ⟨RX4, "troubleOfOne", "(IIIII)I"⟩
abbrev cX4_troubleOfNew : ByteArray := prog_1_method_29_code
def yX4_troubleOfNew : MethodName := ⟨RX4, "troubleOfNew", "(III)I"⟩
abbrev cX4_troubleOfPut : ByteArray := prog_1_method_30_code
def yX4_troubleOfPut : MethodName := ⟨RX4, "troubleOfPut", "(II)I"⟩
abbrev cX4_troubleOfCopy : ByteArray := prog_1_method_31_code
def yX4_troubleOfCopy : MethodName := ⟨RX4, "troubleOfCopy", "(IIIII)I"⟩
abbrev cX4_answerOfKind : ByteArray := prog_1_method_32_code
def yX4_answerOfKind : MethodName := ⟨RX4, "answerOfKind", "(II)I"⟩
abbrev cX4_isSheet : ByteArray := prog_1_method_33_code
def yX4_isSheet : MethodName := ⟨RX4, "isSheet", "(I)Z"⟩
abbrev cX4_isLane : ByteArray := prog_1_method_34_code
def yX4_isLane : MethodName := ⟨RX4, "isLane", "(I)Z"⟩
abbrev cX4_isQuestion : ByteArray := prog_1_method_35_code
def yX4_isQuestion : MethodName := ⟨RX4, "isQuestion", "(I)Z"⟩
abbrev cX4_firstFault : ByteArray := prog_1_method_36_code
def yX4_firstFault : MethodName := ⟨RX4, "firstFault", "(LFaceGlass$Sheet;II)I"⟩
abbrev cX4_goesOn : ByteArray := prog_1_method_37_code
def yX4_goesOn : MethodName := ⟨RX4, "goesOn", "(II)Z"⟩
abbrev cX4_kindOfLetter : ByteArray := prog_1_method_38_code
def yX4_kindOfLetter : MethodName := ⟨RX4, "kindOfLetter", "(I)I"⟩
abbrev cX4_lasting : ByteArray := prog_1_method_39_code
def yX4_lasting : MethodName := ⟨RX4, "lasting", "(II)I"⟩
abbrev cX4_takeRow : ByteArray := prog_1_method_40_code
def yX4_takeRow : MethodName := ⟨RX4, "takeRow", "(LFaceGlass$Sheet;II)Z"⟩
abbrev cX4_firstWrong : ByteArray := prog_1_method_41_code
def yX4_firstWrong : MethodName := ⟨RX4, "firstWrong", "()I"⟩
abbrev cX4_answerOfHall : ByteArray := prog_1_method_42_code
def yX4_answerOfHall : MethodName := ⟨RX4, "answerOfHall", "(I)I"⟩
abbrev cX4_answerOfHead : ByteArray := prog_1_method_43_code
def yX4_answerOfHead : MethodName := ⟨RX4, "answerOfHead", "(II)I"⟩
abbrev cX4_bitIfAllSo : ByteArray := prog_1_method_44_code
def yX4_bitIfAllSo : MethodName := ⟨RX4, "bitIfAllSo", "(I)I"⟩
abbrev cX4_allSo : ByteArray := prog_1_method_45_code
def yX4_allSo : MethodName := ⟨RX4, "allSo", "()Z"⟩
abbrev cX4_rowsTo : ByteArray := prog_1_method_46_code
def yX4_rowsTo : MethodName := ⟨RX4, "rowsTo", "(LFaceGlass$Hall;III)I"⟩
abbrev cX4_greatestDivisor : ByteArray := prog_1_method_47_code
def yX4_greatestDivisor : MethodName := ⟨RX4, "greatestDivisor", "(II)I"⟩
abbrev cX4_leaveTrace : ByteArray := prog_1_method_48_code
def yX4_leaveTrace : MethodName := ⟨RX4, "leaveTrace", "(I)V"⟩
abbrev cX4_headsTelling : ByteArray := prog_1_method_49_code
def yX4_headsTelling : MethodName := ⟨RX4, "headsTelling", "(I)I"⟩
abbrev cX4_lordsTelling : ByteArray := prog_1_method_50_code
def yX4_lordsTelling : MethodName := ⟨RX4, "lordsTelling", "(I)I"⟩
abbrev cX4_spysTelling : ByteArray := prog_1_method_51_code
def yX4_spysTelling : MethodName := ⟨RX4, "spysTelling", "(I)I"⟩
abbrev cX4_cut : ByteArray := prog_1_method_52_code
def yX4_cut : MethodName := ⟨RX4, "cut", "(II)I"⟩
def RX5 : String := "FaceGlassModel"
def TX5 : u_T := fun k => match k with
  | 0 => ("FaceGlassModel", "fault", "I", false)
  | 1 => ("FaceGlassModel", "trace", "I", false)
  | 2 => ("FaceGlassModel", "sorts", "[I", true)
  | 3 => ("FaceGlassModel", "sheetLong", "[I", true)
  | 4 => ("FaceGlassModel", "cells", "[I", true)
  | 5 => ("FaceGlassModel", "heads", "I", false)
  | 6 => ("FaceGlassModel", "kind", "[I", true)
  | 7 => ("FaceGlassModel", "wearOf", "[I", true)
  | 8 => ("FaceGlassModel", "knowsOf", "[I", true)
  | 9 => ("FaceGlassModel", "at", "I", false)
  | 10 => ("FaceGlassModel", "readMany", "I", false)
  | 11 => ("FaceGlassModel", "read", "[I", true)
  | 12 => ("FaceGlassModel", "wears", "[I", true)
  | 13 => ("FaceGlassModel", "taken", "[I", true)
  | 14 => ("FaceGlassModel", "glass", "I", false)
  | 15 => ("FaceGlassModel", "told", "I", false)
  | 16 => ("FaceGlassModel", "row", "[I", true)
  | 17 => ("FaceGlassModel", "foundLong", "I", false)
  | 18 => ("FaceGlassModel", "readings", "I", false)
  | 19 => ("FaceGlassModel", "readWhen", "[I", true)
  | 20 => ("FaceGlassModel", "readHeadOf", "[I", true)
  | _ => ("FaceGlassModel", "readFace", "[I", true)
def tyX5 : Nat → FieldType := fun k => match k with
  | 0 => .int
  | 1 => .int
  | 2 => .array .int
  | 3 => .array .int
  | 4 => .array .int
  | 5 => .int
  | 6 => .array .int
  | 7 => .array .int
  | 8 => .array .int
  | 9 => .int
  | 10 => .int
  | 11 => .array .int
  | 12 => .array .int
  | 13 => .array .int
  | 14 => .int
  | 15 => .int
  | 16 => .array .int
  | 17 => .int
  | 18 => .int
  | 19 => .array .int
  | 20 => .array .int
  | _ => .array .int
abbrev wsX50 : List Cond := u_ws RX5 TX5 22
theorem nmX5 : ∀ a, a < 22 → ∀ b, b < 22 → a ≠ b → (TX5 a).2.1 ≠ (TX5 b).2.1 := by decide +kernel
theorem tyX5_ok : ∀ k, k < 22 → parseFieldDescriptor (TX5 k).2.2.1 = some (tyX5 k) := by decide +kernel
abbrev cX5_init : ByteArray := prog_7_method_1_code
def yX5_init : MethodName := ⟨RX5, "<init>", "()V"⟩
abbrev cX5_fails : ByteArray := prog_7_method_3_code
def yX5_fails : MethodName := ⟨RX5, "fails", "(I)I"⟩
abbrev cX5_lost : ByteArray := prog_7_method_4_code
def yX5_lost : MethodName := ⟨RX5, "lost", "(I)J"⟩
abbrev cX5_within : ByteArray := prog_7_method_5_code
def yX5_within : MethodName := ⟨RX5, "within", "(III)Z"⟩
abbrev cX5_isSheet : ByteArray := prog_7_method_6_code
def yX5_isSheet : MethodName := ⟨RX5, "isSheet", "(I)Z"⟩
abbrev cX5_isSort : ByteArray := prog_7_method_7_code
def yX5_isSort : MethodName := ⟨RX5, "isSort", "(I)Z"⟩
abbrev cX5_against : ByteArray := prog_7_method_8_code
def yX5_against : MethodName := ⟨RX5, "against", "(IIII)I"⟩
abbrev cX5_isHead : ByteArray := prog_7_method_9_code
def yX5_isHead : MethodName := ⟨RX5, "isHead", "(I)Z"⟩
abbrev cX5_digit : ByteArray := prog_7_method_10_code
def yX5_digit : MethodName := ⟨RX5, "digit", "(III)I"⟩
abbrev cX5_isSign : ByteArray := prog_7_method_11_code
def yX5_isSign : MethodName := ⟨RX5, "isSign", "(II)Z"⟩
abbrev cX5_court : ByteArray := prog_7_method_12_code
def yX5_court : MethodName := ⟨RX5, "court", "(IIII)I"⟩
abbrev cX5_readCourt : ByteArray := prog_7_method_13_code
def yX5_readCourt : MethodName := ⟨RX5, "readCourt", "(I)Z"⟩
abbrev cX5_readHead : ByteArray := prog_7_method_14_code
def yX5_readHead : MethodName := ⟨RX5, "readHead", "(I)Z"⟩
abbrev cX5_lasts : ByteArray := prog_7_method_15_code
def yX5_lasts : MethodName := ⟨RX5, "lasts", "(I)I"⟩
abbrev cX5_ofHead : ByteArray := prog_7_method_16_code
def yX5_ofHead : MethodName := ⟨RX5, "ofHead", "(II)I"⟩
abbrev cX5_wear : ByteArray := prog_7_method_17_code
def yX5_wear : MethodName := ⟨RX5, "wear", "(II)I"⟩
abbrev cX5_knows : ByteArray := prog_7_method_18_code
def yX5_knows : MethodName := ⟨RX5, "knows", "(II)I"⟩
abbrev cX5_begin : ByteArray := prog_7_method_19_code
def yX5_begin : MethodName := ⟨RX5, "begin", "()V"⟩
abbrev cX5_change : ByteArray := prog_7_method_20_code
def yX5_change : MethodName := ⟨RX5, "change", "(I)V"⟩
abbrev cX5_visit : ByteArray := prog_7_method_21_code
def yX5_visit : MethodName := ⟨RX5, "visit", "(I)Z"⟩
abbrev cX5_layVisits : ByteArray := prog_7_method_22_code
def yX5_layVisits : MethodName := ⟨RX5, "layVisits", "(IIII)I"⟩
abbrev cX5_isRow : ByteArray := prog_7_method_23_code
def yX5_isRow : MethodName := ⟨RX5, "isRow", "(II)Z"⟩
abbrev cX5_go : ByteArray := prog_7_method_24_code
def yX5_go : MethodName := ⟨RX5, "go", "()I"⟩
abbrev cX5_isWhat : ByteArray := prog_7_method_25_code
def yX5_isWhat : MethodName := ⟨RX5, "isWhat", "(I)Z"⟩
abbrev cX5_visits : ByteArray := prog_7_method_26_code
def yX5_visits : MethodName := ⟨RX5, "visits", "(IIIII)I"⟩
abbrev cX5_tellVisits : ByteArray := prog_7_method_27_code
def yX5_tellVisits : MethodName := ⟨RX5, "tellVisits", "(I)I"⟩
abbrev cX5_atHome : ByteArray := prog_7_method_28_code
def yX5_atHome : MethodName := ⟨RX5, "atHome", "()I"⟩
abbrev cX5_firstAway : ByteArray := prog_7_method_29_code
def yX5_firstAway : MethodName := ⟨RX5, "firstAway", "()I"⟩
abbrev cX5_home : ByteArray := prog_7_method_30_code
def yX5_home : MethodName := ⟨RX5, "home", "()I"⟩
abbrev cX5_worn : ByteArray := prog_7_method_31_code
def yX5_worn : MethodName := ⟨RX5, "worn", "()I"⟩
abbrev cX5_fooled : ByteArray := prog_7_method_32_code
def yX5_fooled : MethodName := ⟨RX5, "fooled", "(I)I"⟩
abbrev cX5_layRow : ByteArray := prog_7_method_33_code
def yX5_layRow : MethodName := ⟨RX5, "layRow", "(II)V"⟩
abbrev cX5_findPlan : ByteArray := prog_7_method_34_code
def yX5_findPlan : MethodName := ⟨RX5, "findPlan", "(II)V"⟩
abbrev cX5_plan : ByteArray := prog_7_method_35_code
def yX5_plan : MethodName := ⟨RX5, "plan", "(III)I"⟩
abbrev cX5_reading : ByteArray := prog_7_method_36_code
def yX5_reading : MethodName := ⟨RX5, "reading", "(III)I"⟩
abbrev cX5_back : ByteArray := prog_7_method_37_code
def yX5_back : MethodName := ⟨RX5, "back", "(I)I"⟩
abbrev cX5_areSoBehind : ByteArray := prog_7_method_38_code
def yX5_areSoBehind : MethodName := ⟨RX5, "areSoBehind", "(I)Z"⟩
abbrev cX5_areSo : ByteArray := prog_7_method_39_code
def yX5_areSo : MethodName := ⟨RX5, "areSo", "()Z"⟩
abbrev cX5_who : ByteArray := prog_7_method_40_code
def yX5_who : MethodName := ⟨RX5, "who", "(IIIII)I"⟩
abbrev cX5_lay : ByteArray := prog_7_method_41_code
def yX5_lay : MethodName := ⟨RX5, "lay", "(IIIII)I"⟩
abbrev cX5_kinds : ByteArray := prog_7_method_42_code
def yX5_kinds : MethodName := ⟨RX5, "kinds", "(IIIII)I"⟩
abbrev cX5_wears : ByteArray := prog_7_method_43_code
def yX5_wears : MethodName := ⟨RX5, "wears", "(IIIII)I"⟩
abbrev cX5_inLeastTerms : ByteArray := prog_7_method_44_code
def yX5_inLeastTerms : MethodName := ⟨RX5, "inLeastTerms", "(JJI)J"⟩
abbrev cX5_odds : ByteArray := prog_7_method_45_code
def yX5_odds : MethodName := ⟨RX5, "odds", "(IIII)J"⟩
abbrev cX5_sheet : ByteArray := prog_7_method_46_code
def yX5_sheet : MethodName := ⟨RX5, "sheet", "(III)I"⟩
abbrev cX5_lose : ByteArray := prog_7_method_47_code
def yX5_lose : MethodName := ⟨RX5, "lose", "(I)I"⟩
abbrev cX5_put : ByteArray := prog_7_method_48_code
def yX5_put : MethodName := ⟨RX5, "put", "(III)I"⟩
abbrev cX5_cell : ByteArray := prog_7_method_49_code
def yX5_cell : MethodName := ⟨RX5, "cell", "(III)J"⟩
abbrev cX5_copy : ByteArray := prog_7_method_50_code
def yX5_copy : MethodName := ⟨RX5, "copy", "(IIIII)I"⟩
abbrev cX5_begins : ByteArray := prog_7_method_51_code
def yX5_begins : MethodName := ⟨RX5, "begins", "(I)V"⟩
abbrev cX5_tell : ByteArray := prog_7_method_52_code
def yX5_tell : MethodName := ⟨RX5, "tell", "(I)I"⟩
abbrev cX5_greet : ByteArray := prog_7_method_53_code
def yX5_greet : MethodName := ⟨RX5, "greet", "(I)I"⟩
abbrev cX5_as : ByteArray := prog_7_method_54_code
def yX5_as : MethodName := ⟨RX5, "as", "(II)I"⟩
abbrev cX5_trace : ByteArray := prog_7_method_55_code
def yX5_trace : MethodName := ⟨RX5, "trace", "()I"⟩
abbrev cX5_fault : ByteArray := prog_7_method_56_code
def yX5_fault : MethodName := ⟨RX5, "fault", "()I"⟩
abbrev cX5_many : ByteArray := prog_7_method_57_code
def yX5_many : MethodName := ⟨RX5, "many", "(I)I"⟩
def RJ9 : String := "java/lang/Math"
def TJ9 : u_T := fun k => match k with
  | _ => ("", "", "", false)
def tyJ9 : Nat → FieldType := fun k => match k with
  | _ => .int
abbrev wsJ90 : List Cond := u_ws RJ9 TJ9 0
theorem nmJ9 : ∀ a, a < 0 → ∀ b, b < 0 → a ≠ b → (TJ9 a).2.1 ≠ (TJ9 b).2.1 := by decide +kernel
theorem tyJ9_ok : ∀ k, k < 0 → parseFieldDescriptor (TJ9 k).2.2.1 = some (tyJ9 k) := by decide +kernel
abbrev cJ9_max_7cf53 : ByteArray := prog_8_method_65_code
def yJ9_max_7cf53 : MethodName := ⟨RJ9, "max", "(II)I"⟩
abbrev cJ9_min_7cf53 : ByteArray := prog_8_method_69_code
def yJ9_min_7cf53 : MethodName := ⟨RJ9, "min", "(II)I"⟩
def RJ10 : String := "java/lang/System"
def TJ10 : u_T := fun k => match k with
  | _ => ("", "", "", false)
def tyJ10 : Nat → FieldType := fun k => match k with
  | _ => .int
abbrev wsJ100 : List Cond := u_ws RJ10 TJ10 0
theorem nmJ10 : ∀ a, a < 0 → ∀ b, b < 0 → a ≠ b → (TJ10 a).2.1 ≠ (TJ10 b).2.1 := by decide +kernel
theorem tyJ10_ok : ∀ k, k < 0 → parseFieldDescriptor (TJ10 k).2.2.1 = some (tyJ10 k) := by decide +kernel
def RL : String := "FaceGlassLaw"
abbrev cL_law : ByteArray := code
def yL_law : MethodName := ⟨RL, "law", "([I)Z"⟩
theorem mem_ps {ws big : List Cond} (ps : List Nat) (h : ws = ps.filterMap (fun i => big[i]?)) : ∀ w ∈ ws, w ∈ big := by
  intro w hw
  rw [h] at hw
  obtain ⟨i, -, hi⟩ := List.mem_filterMap.mp hw
  exact List.mem_of_getElem? hi
set_option maxRecDepth 20000 in
theorem inX0 : ∀ w ∈ wsX00, w ∈ lw_tbl := mem_ps [102, 104, 106, 108] (by decide +kernel)
set_option maxRecDepth 20000 in
theorem inX1 : ∀ w ∈ wsX10, w ∈ lw_tbl := mem_ps [128, 130, 132, 134, 136] (by decide +kernel)
set_option maxRecDepth 20000 in
theorem inX2 : ∀ w ∈ wsX20, w ∈ lw_tbl := mem_ps [150, 152, 154, 156] (by decide +kernel)
set_option maxRecDepth 20000 in
theorem inX3 : ∀ w ∈ wsX30, w ∈ lw_tbl := mem_ps [77, 79, 81] (by decide +kernel)
set_option maxRecDepth 20000 in
theorem inX4 : ∀ w ∈ wsX40, w ∈ lw_tbl := mem_ps [167, 169, 171, 173, 175, 177, 179, 181] (by decide +kernel)
set_option maxRecDepth 20000 in
theorem inX5 : ∀ w ∈ wsX50, w ∈ lw_tbl := mem_ps [491, 493, 495, 497, 499, 501, 503, 505, 507, 509, 511, 513, 515, 517, 519, 521, 523, 525, 527, 529, 531, 533] (by decide +kernel)
end
section
/-! THE STORE JUDGEMENT: all 37 cells (23 of the class, 14 of the reference) have fixed addresses; a state is a store of ints. -/
abbrev St : Type := Nat → Nat → Int32
abbrev MV : Type := Int32 ⊕ (Int64 ⊕ Nat)
abbrev GG : Type := Launch × va_G × (Nat → Nat) × ClassId × ClassId
abbrev MD : Type := MethodName × ByteArray × Nat × Option FieldType
abbrev vI (x : Int32) : MV := .inl x
abbrev vL (x : Int64) : MV := .inr (.inl x)
abbrev vR (j : Nat) : MV := .inr (.inr j)
def toV (g : GG) (v : MV) : Value := match v with
  | .inl x => .int x
  | .inr (.inl x) => .long x
  | .inr (.inr j) => .ref (g.2.2.1 j)
abbrev classes : List vw_C := [(RX0, TX0, 4), (RX1, TX1, 5), (RX2, TX2, 4), (RX3, TX3, 3), (RX4, TX4, 8), (RX5, TX5, 22)]
abbrev tysG (g : GG) : List (ClassId × FieldType) := [(g.2.2.2.1, .int), (g.2.2.2.2, .object RX3)]
/-- the shape of a cell: an array of so many ints, or an object of a class with its fields (some t: the cell t; none: an int) -/
def shp (j : Nat) : Nat ⊕ (Nat × List (Option Nat)) := match j with
  | 0 => .inr (4, [some 1, some 10, some 14, some 18, some 22, none, none, none])
  | 2 => .inr (3, [some 6, none, none])
  | 3 => .inr (3, [some 7, none, none])
  | 4 => .inr (3, [some 8, none, none])
  | 5 => .inr (3, [some 9, none, none])
  | 6 => .inl 60
  | 7 => .inl 60
  | 8 => .inl 60
  | 9 => .inl 60
  | 10 => .inr (0, [some 11, some 12, some 13, none])
  | 11 => .inl 5
  | 12 => .inl 5
  | 13 => .inl 5
  | 14 => .inr (1, [some 15, some 16, some 17, none, none])
  | 15 => .inl 5
  | 16 => .inl 5
  | 17 => .inl 5
  | 18 => .inr (2, [some 19, some 20, some 21, none])
  | 19 => .inl 8
  | 20 => .inl 8
  | 21 => .inl 8
  | 22 => .inl 20
  | 23 => .inr (5, [none, none, some 24, some 25, some 26, none, some 27, some 28, some 29, none, none, some 30, some 31, some 32, none, none, some 33, none, none, some 34, some 35, some 36])
  | 24 => .inl 4
  | 25 => .inl 4
  | 26 => .inl 240
  | 27 => .inl 5
  | 28 => .inl 5
  | 29 => .inl 5
  | 30 => .inl 15
  | 31 => .inl 5
  | 32 => .inl 5
  | 33 => .inl 20
  | 34 => .inl 8
  | 35 => .inl 8
  | 36 => .inl 8
  | _ => .inl 0
def fvv (g : GG) (r : Option Nat) (x : Int32) : Value := match r with
  | some t => .ref (g.2.2.1 t)
  | none => .int x
def fvs (g : GG) (l : List (Option Nat)) (f : Nat → Int32) : List Value := (List.range l.length).map (fun k => fvv g ((l[k]?).getD none) (f k))
def cel (g : GG) (j : Nat) (f : Nat → Int32) : va_E := if j = 1 then .inl (g.2.2.2.2, 4, .inr (.inr (.inr (.inr (fun i => some (g.2.2.1 (2 + i))))))) else match shp j with
  | .inl n => .inl (g.2.2.2.1, n, .inl f)
  | .inr q => .inr (q.1, fvs g q.2 f)
def WS (g : GG) (σ : St) : va_W := (List.range 37).map (fun j => (g.2.2.1 j, cel g j (σ j)))
def sU (σ : St) (j k : Nat) (v : Int32) : St := fun a => if a = j then upd (σ j) k v else σ a
def AA (g : GG) : Nat → Prop := fun q => ∃ j, j < 37 ∧ q = g.2.2.1 j
def Apt (g : GG) : Prop := ∀ i j, i < 37 → j < 37 → g.2.2.1 i = g.2.2.1 j → i = j
theorem WS_at (g : GG) (σ : St) {j : Nat} (h : j < 37) : (WS g σ)[j]? = some (g.2.2.1 j, cel g j (σ j)) := by
  simp [WS, h]
theorem WS_ge (g : GG) (σ : St) {j : Nat} {q : Nat × va_E} (h : (WS g σ)[j]? = some q) : j < 37 ∧ q = (g.2.2.1 j, cel g j (σ j)) := by
  have hj : j < 37 := by
    have := (List.getElem?_eq_some_iff.mp h).1
    simpa [WS] using this
  rw [WS_at g σ hj] at h
  exact ⟨hj, (Option.some.inj h).symm⟩
theorem WS_set (g : GG) (σ σ' : St) {j : Nat} (hj : j < 37) (e : va_E) (he : cel g j (σ' j) = e) (ho : ∀ i, i ≠ j → σ' i = σ i) : (WS g σ).set j (g.2.2.1 j, e) = WS g σ' := by
  apply List.ext_getElem?
  intro i
  by_cases hi : i = j
  · subst hi
    rw [List.getElem?_set_self (by simpa [WS] using hj), WS_at g σ' hj, he]
  · rw [List.getElem?_set_ne (Ne.symm hi)]
    by_cases hl : i < 37
    · rw [WS_at g σ hl, WS_at g σ' hl, ho i hi]
    · rw [List.getElem?_eq_none (by simpa [WS] using Nat.not_lt.mp hl), List.getElem?_eq_none (by simpa [WS] using Nat.not_lt.mp hl)]
theorem sU_o {σ : St} {j k : Nat} {v : Int32} {i : Nat} (h : i ≠ j) : sU σ j k v i = σ i := by simp [sU, h]
theorem sU_s {σ : St} {j k : Nat} {v : Int32} : sU σ j k v j = upd (σ j) k v := by simp [sU]
theorem WS_D {g : GG} (h : Apt g) {A : Nat → Prop} (hA : ∀ j, j < 37 → A (g.2.2.1 j)) (σ : St) : va_D A (WS g σ) := by
  refine ⟨fun i j p q hi hj he => ?_, fun k q hk => ?_⟩
  · obtain ⟨li, rfl⟩ := WS_ge g σ hi
    obtain ⟨lj, rfl⟩ := WS_ge g σ hj
    exact h i j li lj he
  · obtain ⟨lk, rfl⟩ := WS_ge g σ hk
    exact hA k lk
/-- the field k of the object j, of the class ci: none: an int; some t: the cell t -/
def ofld (j ci k : Nat) : Option (Option Nat) := match shp j with
  | .inr (c, l) => if c = ci then l[k]? else none
  | .inl _ => none
def alen (j : Nat) : Nat := match shp j with
  | .inl n => n
  | _ => 0
def isA (j : Nat) : Bool := match shp j with
  | .inl n => !(n == 0)
  | _ => false
theorem shp_lt {j : Nat} (h : shp j ≠ .inl 0) : j < 37 ∧ j ≠ 1 := by
  refine ⟨?_, fun e => h (by rw [e]; rfl)⟩
  rcases Nat.lt_or_ge j 37 with q | q
  · exact q
  · exfalso
    apply h
    obtain ⟨k, rfl⟩ : ∃ k, j = k + 37 := ⟨j - 37, by omega⟩
    rfl
theorem ofld_sh {j ci k : Nat} {r : Option Nat} (h : ofld j ci k = some r) : ∃ l, shp j = .inr (ci, l) ∧ l[k]? = some r := by
  unfold ofld at h
  cases e : shp j with
  | inl n => rw [e] at h; cases h
  | inr q =>
    obtain ⟨c, l⟩ := q
    rw [e] at h
    dsimp only at h
    by_cases hc : c = ci
    · rw [if_pos hc] at h
      exact ⟨l, by rw [hc], h⟩
    · rw [if_neg hc] at h; cases h
theorem cel_o {g : GG} {j ci : Nat} {l : List (Option Nat)} (h : shp j = .inr (ci, l)) (f : Nat → Int32) : j < 37 ∧ cel g j f = .inr (ci, fvs g l f) := by
  obtain ⟨h1, h2⟩ := shp_lt (j := j) (by rw [h]; exact fun q => by cases q)
  refine ⟨h1, ?_⟩
  unfold cel
  rw [if_neg h2, h]
theorem isA_sh {j : Nat} (h : isA j = true) : shp j = .inl (alen j) ∧ j < 37 ∧ ∀ (g : GG) (f : Nat → Int32), cel g j f = .inl (g.2.2.2.1, alen j, .inl f) := by
  have e : shp j = .inl (alen j) := by
    unfold alen
    unfold isA at h
    cases e : shp j with
    | inl n => rfl
    | inr q => rw [e] at h; cases h
  have hne : shp j ≠ .inl 0 := by
    intro q
    unfold isA at h
    rw [q] at h
    exact absurd h (by decide)
  obtain ⟨h1, h2⟩ := shp_lt hne
  refine ⟨e, h1, fun g f => ?_⟩
  unfold cel
  rw [if_neg h2, e]
theorem fvs_at {g : GG} {l : List (Option Nat)} {f : Nat → Int32} {k : Nat} {r : Option Nat} (h : l[k]? = some r) : (fvs g l f)[k]? = some (fvv g r (f k)) := by
  have hk : k < l.length := (List.getElem?_eq_some_iff.mp h).1
  unfold fvs
  rw [List.getElem?_map, List.getElem?_range hk]
  show some (fvv g ((l[k]?).getD none) (f k)) = some _
  rw [h]
  rfl
theorem fvs_set {g : GG} {l : List (Option Nat)} {f : Nat → Int32} {k : Nat} (h : l[k]? = some none) (v : Int32) : (fvs g l f).set k (.int v) = fvs g l (upd f k v) := by
  have hk : k < l.length := (List.getElem?_eq_some_iff.mp h).1
  apply List.ext_getElem?
  intro i
  by_cases hi : i = k
  · subst hi
    rw [List.getElem?_set_self (by simpa [fvs] using hk), fvs_at h]
    simp [upd, fvv]
  · rw [List.getElem?_set_ne (Ne.symm hi)]
    unfold fvs
    rw [List.getElem?_map, List.getElem?_map]
    by_cases hl : i < l.length
    · rw [List.getElem?_range hl]
      simp [upd, hi]
    · rw [List.getElem?_eq_none (by simpa using Nat.not_lt.mp hl)]
      rfl
/-! the judgement -/
def isNest (w : Cond) : Bool := match w with
  | .fieldLinkNest _ _ _ _ _ _ => true
  | .methodLinkNest _ _ _ _ => true
  | _ => false
def tblG : List Cond := lw_tbl.filter goodWord
def tblN : List Cond := lw_tbl.filter isNest
def tblU : List Cond := lw_tbl.filter (fun w => goodWord w || isNest w)
def wsM (M : MD) : List Cond := .code M.1 M.2.1 M.2.2.1 M.2.2.2 :: tblG
def rmD (d : Nat) : Room := { frames := d, cells := 0, slots := 0, locals := 40 * d }
def NW (U : State) : Prop := ∀ w ∈ tblN, va_Nw w U
theorem NW_hts {args : Array Value} {s : State} (h1 : ∀ w ∈ tblG, w.before args s = true) (h2 : NW s) : ∀ w ∈ tblU, w.before args s = true := by
  intro w hw
  obtain ⟨hw, h⟩ := List.mem_filter.mp hw
  rw [Bool.or_eq_true] at h
  rcases h with h | h
  · exact h1 w (List.mem_filter.mpr ⟨hw, h⟩)
  · have hN := h2 w (List.mem_filter.mpr ⟨hw, h⟩)
    cases w <;> first | (exact va_Nw.use rfl hN) | (exact absurd h (by simp [isNest]))
theorem NW_warm {s U : State} (hW : s.WarmedH U.vm) {args : Array Value} (h : ∀ w ∈ tblU, w.before args s = true) : NW U := by
  intro w hw
  obtain ⟨h1, h2⟩ := List.mem_filter.mp hw
  have hb := h w (List.mem_filter.mpr ⟨h1, by rw [h2, Bool.or_true]⟩)
  cases w <;> first | (exact va_Nw.warmF hW (va_Nw.of rfl hb)) | (exact va_Nw.warmM hW (va_Nw.of rfl hb)) | (exact absurd h2 (by simp [isNest]))
theorem tblG_good {big : List Cond} (h : ∀ w ∈ tblG, w ∈ big) : GoodIn big tblG := fun w hw => ⟨h w hw, good_of_word (List.mem_filter.mp hw).2⟩
theorem tblG_U : ∀ w ∈ tblG, w ∈ tblU := fun w hw => List.mem_filter.mpr ⟨(List.mem_filter.mp hw).1, by rw [(List.mem_filter.mp hw).2, Bool.true_or]⟩
/-- a word of the tables, by its place -/
def Wd (i : Nat) (w : Cond) : Prop := lw_tbl[i]? = some w ∧ (goodWord w || isNest w) = true
theorem Wd.U {i : Nat} {w : Cond} (h : Wd i w) : w ∈ tblU := List.mem_filter.mpr ⟨List.mem_of_getElem? h.1, h.2⟩
theorem NW_same {u U : State} (h : u.vm = U.vm) (hN : NW u) : NW U := by
  intro w hw
  have hb := hN w hw
  obtain ⟨h1, h2⟩ := List.mem_filter.mp hw
  cases w <;> first | (exact va_Nw.same rfl h hb) | (exact absurd h2 (by simp [isNest]))
def rvM (g : GG) (rt : Option FieldType) (r : MV) : Option Value := match rt with
  | none => none
  | some _ => some (toV g r)
def PcM (g : GG) (as : List MV) (σ : St) : Array Value → State → Prop := va_Pc (as.map (toV g)) (fun U => va_P g.2.1 classes (WS g σ) U.heap ∧ va_K g.2.1 classes (tysG g) U ∧ NW U)
def QcM (g : GG) (rt : Option FieldType) (Q : MV → St → Prop) : Array Value → State → Outcome → State → Prop := fun _ st oc t => (∃ (r : MV) (σ' : St), oc = .returned (rvM g rt r) ∧ Q r σ' ∧ va_P g.2.1 classes (WS g σ') t.heap) ∧ va_F (AA g) st t
/-- THE CONTRACT of a method: from the store σ, with the arguments as, it returns, and Q holds of its answer and the new store -/
def ME (g : GG) (d : Nat) (M : MD) (as : List MV) (σ : St) (Q : MV → St → Prop) : Prop := Apt g → Met g.1 M.1 (wsM M) (rmD d) (PcM g as σ) (QcM g M.2.2.2 Q) 0 0 (AA g)
def CT (g : GG) (AF : State → Nat → Prop) (EX : State → Prop) (M : MD) (p : Program) (s : State) (m : MethodId) (args : Array Value) (meth : Method) (c : Code) : Prop :=
  p.tables.exec = Jvm.exec ∧ c.code = M.2.1 ∧ meth.sig.returnType = M.2.2.2 ∧ c.maxLocals = M.2.2.1 ∧ s.vm.findClass M.1.cls = some m.cls ∧ (∀ w ∈ tblU, w.before args s = true) ∧ meth.locks = false ∧ va_K g.2.1 classes (tysG g) s ∧ (Apt g ∧ ∀ j, j < 37 → AF s (g.2.2.1 j)) ∧ EX s
abbrev lsV (g : GG) (ls : List (Nat × MV)) : List (Nat × Value) := ls.map (fun q => (q.1, toV g q.2))
abbrev stV (g : GG) (st : List MV) : List Value := st.map (toV g)
/-- the machine, at pc with these locals, this stack and this store, comes to its end as ZZ says -/
def VE (g : GG) (R : Room) (kc ks : Nat) (ZZ : List Frame → Array Value → State → State → Prop) (AF : State → Nat → Prop) (EX : State → Prop) (M : MD) (pc : Nat) (ls : List (Nat × MV)) (st : List MV) (σ : St) : Prop :=
  ∀ (p : Program) (e : Env) (s : State) (m : MethodId) (args : Array Value) (below : List Frame) (meth : Method) (c : Code) (H : Heap) (locs : List Loc) (lA : Array Slot),
    CT g AF EX M p s m args meth c → va_P g.2.1 classes (WS g σ) H → va_S (AF s) s.heap H locs → lv_has lA M.2.2.1 (lsV g ls) →
    W p g.1 e R s m args below meth c H locs kc ks (ZZ below args s) (F0 m pc lA (stV g st))
def zM (g : GG) (M : MD) (Q : MV → St → Prop) : List Frame → Array Value → State → State → Prop := fun below a s => MQ below (QcM g M.2.2.2 Q) a s 0 0 (AA g)
abbrev VM (g : GG) (d : Nat) (M : MD) (Q : MV → St → Prop) : Nat → List (Nat × MV) → List MV → St → Prop := VE g (rmD d) 0 0 (zM g M Q) (fun _ => AA g) (fun _ => True) M
end
section
/-! one lemma an instruction -/
theorem lsV_at {g : GG} {ls : List (Nat × MV)} {q i : Nat} {v : MV} (h : ls[q]? = some (i, v)) : (lsV g ls)[q]? = some (i, toV g v) := by
  rw [List.getElem?_map, h]; rfl
def cat2 (v : MV) : Bool := match v with
  | .inr (.inl _) => true
  | _ => false
def stL (i : Nat) (v : MV) (ls : List (Nat × MV)) : List (Nat × MV) := (i, v) :: ls.filter (fun q => !(q.1 == i) && !(q.1 + 1 == i && cat2 q.2))
def stL2 (i : Nat) (v : MV) (ls : List (Nat × MV)) : List (Nat × MV) := (i, v) :: ls.filter (fun q => !(q.1 == i) && (!(q.1 == i + 1) && !(q.1 + 1 == i && cat2 q.2)))
theorem cat2_ok (g : GG) (v : MV) : ((toV g v).category == 2) = cat2 v := by
  rcases v with x | x | x <;> rfl
theorem stL_ok (g : GG) (i : Nat) (v : MV) (ls : List (Nat × MV)) : (i, toV g v) :: (lsV g ls).filter (fun q => !(q.1 == i) && !(q.1 + 1 == i && q.2.category == 2)) = lsV g (stL i v ls) := by
  show _ = (i, toV g v) :: lsV g _
  congr 1
  rw [List.filter_map]
  congr 1
  apply List.filter_congr
  intro q _
  show _ = _
  simp only [Function.comp, cat2_ok]
theorem stL2_ok (g : GG) (i : Nat) (v : MV) (ls : List (Nat × MV)) : (i, toV g v) :: (lsV g ls).filter (fun q => !(q.1 == i) && (!(q.1 == i + 1) && !(q.1 + 1 == i && q.2.category == 2))) = lsV g (stL2 i v ls) := by
  show _ = (i, toV g v) :: lsV g _
  congr 1
  rw [List.filter_map]
  congr 1
  apply List.filter_congr
  intro q _
  show _ = _
  simp only [Function.comp, cat2_ok]
section VEI
variable {g : GG} {R : Room} {kc ks : Nat} {ZZ : List Frame → Array Value → State → State → Prop} {AF : State → Nat → Prop} {EX : State → Prop} {M : MD} {pc : Nat} {ls : List (Nat × MV)} {st : List MV} {σ : St}
/-- fewer listed locals, in any order: by their places -/
theorem VE_sub (ps : List Nat) {ls' : List (Nat × MV)} (h : ps.filterMap (fun k => ls[k]?) = ls') (k : VE g R kc ks ZZ AF EX M pc ls' st σ) : VE g R kc ks ZZ AF EX M pc ls st σ := by
  intro p e s m args below meth c H locs lA C hP hS hl
  refine k p e s m args below meth c H locs lA C hP hS ⟨hl.1, hl.2.1, fun q hq => ?_⟩
  subst h
  obtain ⟨q', h1, h2⟩ := List.mem_map.mp hq
  obtain ⟨i, -, hi⟩ := List.mem_filterMap.mp h1
  exact hl.2.2 q (List.mem_map.mpr ⟨q', List.mem_of_getElem? hi, h2⟩)
theorem VE_at {pc' : Nat} {ls' : List (Nat × MV)} {st' : List MV} {σ' : St} (k : VE g R kc ks ZZ AF EX M pc' ls' st' σ') (h1 : pc = pc' := by rfl) (h2 : ls = ls' := by rfl) (h3 : st = st' := by rfl) (h4 : σ = σ' := by rfl) : VE g R kc ks ZZ AF EX M pc ls st σ := by
  subst h1; subst h2; subst h3; subst h4; exact k
theorem VE_iconst {n : Int} (v : Int32) (hd : decode M.2.1 pc = .ok (.iconst n, 1)) (hv : Int32.ofInt n = v := by rfl) (k : VE g R kc ks ZZ AF EX M (pc + 1) ls (vI v :: st) σ) : VE g R kc ks ZZ AF EX M pc ls (st) σ := by
  intro p e s m args below meth c H locs lA C hP hS hl
  exact lv_iconst C.1 C.2.1 hd hv (k p e s m args below meth c H locs lA C hP hS hl)
theorem VE_bipush {n : Int} (v : Int32) (hd : decode M.2.1 pc = .ok (.bipush n, 2)) (hv : (Int8.ofInt n).toInt32 = v := by rfl) (k : VE g R kc ks ZZ AF EX M (pc + 2) ls (vI v :: st) σ) : VE g R kc ks ZZ AF EX M pc ls (st) σ := by
  intro p e s m args below meth c H locs lA C hP hS hl
  exact lv_bipush C.1 C.2.1 hd hv (k p e s m args below meth c H locs lA C hP hS hl)
theorem VE_sipush {n : Int} (v : Int32) (hd : decode M.2.1 pc = .ok (.sipush n, 3)) (hv : (Int16.ofInt n).toInt32 = v := by rfl) (k : VE g R kc ks ZZ AF EX M (pc + 3) ls (vI v :: st) σ) : VE g R kc ks ZZ AF EX M pc ls (st) σ := by
  intro p e s m args below meth c H locs lA C hP hS hl
  exact lv_sipush C.1 C.2.1 hd hv (k p e s m args below meth c H locs lA C hP hS hl)
theorem VE_lconst {n : Fin 2} (v : Int64) (hd : decode M.2.1 pc = .ok (.lconst n, 1)) (hv : Int64.ofNat (n : Nat) = v := by rfl) (k : VE g R kc ks ZZ AF EX M (pc + 1) ls (vL v :: st) σ) : VE g R kc ks ZZ AF EX M pc ls (st) σ := by
  intro p e s m args below meth c H locs lA C hP hS hl
  exact lv_lconst C.1 C.2.1 hd hv (k p e s m args below meth c H locs lA C hP hS hl)
theorem VE_iload_n {i : Fin 4} {x : Int32} (q : Nat) (hd : decode M.2.1 pc = .ok (.iload_n i, 1)) (h : ls[q]? = some ((i : Nat), vI x) := by rfl) (k : VE g R kc ks ZZ AF EX M (pc + 1) ls (vI x :: st) σ) : VE g R kc ks ZZ AF EX M pc ls (st) σ := by
  intro p e s m args below meth c H locs lA C hP hS hl
  exact lv_iload_n C.1 C.2.1 hd rfl (lv_at hl q (lsV_at h)) (k p e s m args below meth c H locs lA C hP hS hl)
theorem VE_iload {i : Nat} {x : Int32} (q : Nat) (hd : decode M.2.1 pc = .ok (.iload i, 2)) (h : ls[q]? = some (i, vI x) := by rfl) (k : VE g R kc ks ZZ AF EX M (pc + 2) ls (vI x :: st) σ) : VE g R kc ks ZZ AF EX M pc ls (st) σ := by
  intro p e s m args below meth c H locs lA C hP hS hl
  exact lv_iload C.1 C.2.1 hd (lv_at hl q (lsV_at h)) (k p e s m args below meth c H locs lA C hP hS hl)
theorem VE_lload_n {i : Fin 4} {x : Int64} (q : Nat) (hd : decode M.2.1 pc = .ok (.lload_n i, 1)) (h : ls[q]? = some ((i : Nat), vL x) := by rfl) (k : VE g R kc ks ZZ AF EX M (pc + 1) ls (vL x :: st) σ) : VE g R kc ks ZZ AF EX M pc ls (st) σ := by
  intro p e s m args below meth c H locs lA C hP hS hl
  exact lv_lload_n C.1 C.2.1 hd rfl (lv_at hl q (lsV_at h)) (k p e s m args below meth c H locs lA C hP hS hl)
theorem VE_lload {i : Nat} {x : Int64} (q : Nat) (hd : decode M.2.1 pc = .ok (.lload i, 2)) (h : ls[q]? = some (i, vL x) := by rfl) (k : VE g R kc ks ZZ AF EX M (pc + 2) ls (vL x :: st) σ) : VE g R kc ks ZZ AF EX M pc ls (st) σ := by
  intro p e s m args below meth c H locs lA C hP hS hl
  exact lv_lload C.1 C.2.1 hd (lv_at hl q (lsV_at h)) (k p e s m args below meth c H locs lA C hP hS hl)
theorem VE_aload_n {i : Fin 4} {x : Nat} (q : Nat) (hd : decode M.2.1 pc = .ok (.aload_n i, 1)) (h : ls[q]? = some ((i : Nat), vR x) := by rfl) (k : VE g R kc ks ZZ AF EX M (pc + 1) ls (vR x :: st) σ) : VE g R kc ks ZZ AF EX M pc ls (st) σ := by
  intro p e s m args below meth c H locs lA C hP hS hl
  exact lv_aload_n C.1 C.2.1 hd rfl (lv_at hl q (lsV_at h)) (k p e s m args below meth c H locs lA C hP hS hl)
theorem VE_aload {i : Nat} {x : Nat} (q : Nat) (hd : decode M.2.1 pc = .ok (.aload i, 2)) (h : ls[q]? = some (i, vR x) := by rfl) (k : VE g R kc ks ZZ AF EX M (pc + 2) ls (vR x :: st) σ) : VE g R kc ks ZZ AF EX M pc ls (st) σ := by
  intro p e s m args below meth c H locs lA C hP hS hl
  exact lv_aload C.1 C.2.1 hd (lv_at hl q (lsV_at h)) (k p e s m args below meth c H locs lA C hP hS hl)
theorem VE_istore_n {i : Fin 4} {x : Int32} {ls' : List (Nat × MV)} (hd : decode M.2.1 pc = .ok (.istore_n i, 1)) (k : VE g R kc ks ZZ AF EX M (pc + 1) ls' st σ) (hn : (i : Nat) < M.2.2.1 := by decide) (h : stL i (vI x) ls = ls' := by rfl) : VE g R kc ks ZZ AF EX M pc ls (vI x :: st) σ := by
  subst h
  intro p e s m args below meth c H locs lA C hP hS hl
  exact lv_istore_n C.1 C.2.1 hd rfl hl hn (stL_ok g i (vI x) ls) (fun l1 h1 => k p e s m args below meth c H locs l1 C hP hS h1)
theorem VE_istore {i : Nat} {x : Int32} {ls' : List (Nat × MV)} (hd : decode M.2.1 pc = .ok (.istore i, 2)) (k : VE g R kc ks ZZ AF EX M (pc + 2) ls' st σ) (hn : (i : Nat) < M.2.2.1 := by decide) (h : stL i (vI x) ls = ls' := by rfl) : VE g R kc ks ZZ AF EX M pc ls (vI x :: st) σ := by
  subst h
  intro p e s m args below meth c H locs lA C hP hS hl
  exact lv_istore C.1 C.2.1 hd hl hn (stL_ok g i (vI x) ls) (fun l1 h1 => k p e s m args below meth c H locs l1 C hP hS h1)
theorem VE_astore_n {i : Fin 4} {x : Nat} {ls' : List (Nat × MV)} (hd : decode M.2.1 pc = .ok (.astore_n i, 1)) (k : VE g R kc ks ZZ AF EX M (pc + 1) ls' st σ) (hn : (i : Nat) < M.2.2.1 := by decide) (h : stL i (vR x) ls = ls' := by rfl) : VE g R kc ks ZZ AF EX M pc ls (vR x :: st) σ := by
  subst h
  intro p e s m args below meth c H locs lA C hP hS hl
  exact lv_astore_n C.1 C.2.1 hd rfl hl hn (stL_ok g i (vR x) ls) (fun l1 h1 => k p e s m args below meth c H locs l1 C hP hS h1)
theorem VE_astore {i : Nat} {x : Nat} {ls' : List (Nat × MV)} (hd : decode M.2.1 pc = .ok (.astore i, 2)) (k : VE g R kc ks ZZ AF EX M (pc + 2) ls' st σ) (hn : (i : Nat) < M.2.2.1 := by decide) (h : stL i (vR x) ls = ls' := by rfl) : VE g R kc ks ZZ AF EX M pc ls (vR x :: st) σ := by
  subst h
  intro p e s m args below meth c H locs lA C hP hS hl
  exact lv_astore C.1 C.2.1 hd hl hn (stL_ok g i (vR x) ls) (fun l1 h1 => k p e s m args below meth c H locs l1 C hP hS h1)
theorem VE_lstore_n {i : Fin 4} {x : Int64} {ls' : List (Nat × MV)} (hd : decode M.2.1 pc = .ok (.lstore_n i, 1)) (k : VE g R kc ks ZZ AF EX M (pc + 1) ls' st σ) (hn : (i : Nat) + 1 < M.2.2.1 := by decide) (h : stL2 i (vL x) ls = ls' := by rfl) : VE g R kc ks ZZ AF EX M pc ls (vL x :: st) σ := by
  subst h
  intro p e s m args below meth c H locs lA C hP hS hl
  exact lv_lstore_n C.1 C.2.1 hd rfl hl hn (stL2_ok g i (vL x) ls) (fun l1 h1 => k p e s m args below meth c H locs l1 C hP hS h1)
theorem VE_lstore {i : Nat} {x : Int64} {ls' : List (Nat × MV)} (hd : decode M.2.1 pc = .ok (.lstore i, 2)) (k : VE g R kc ks ZZ AF EX M (pc + 2) ls' st σ) (hn : (i : Nat) + 1 < M.2.2.1 := by decide) (h : stL2 i (vL x) ls = ls' := by rfl) : VE g R kc ks ZZ AF EX M pc ls (vL x :: st) σ := by
  subst h
  intro p e s m args below meth c H locs lA C hP hS hl
  exact lv_lstore C.1 C.2.1 hd hl hn (stL2_ok g i (vL x) ls) (fun l1 h1 => k p e s m args below meth c H locs l1 C hP hS h1)
theorem VE_iinc {i : Nat} {n : Int} {x : Int32} (q : Nat) (v : Int32) {ls' : List (Nat × MV)} (hd : decode M.2.1 pc = .ok (.iinc i n, 3)) (k : VE g R kc ks ZZ AF EX M (pc + 3) ls' st σ) (hq : ls[q]? = some (i, vI x) := by rfl) (hv : x + Int32.ofInt n = v := by rfl) (hn : i < M.2.2.1 := by decide) (h : stL i (vI v) ls = ls' := by rfl) : VE g R kc ks ZZ AF EX M pc ls st σ := by
  subst h
  intro p e s m args below meth c H locs lA C hP hS hl
  exact lv_iinc C.1 C.2.1 hd hl (lsV_at hq) hv hn (stL_ok g i (vI v) ls) (fun l1 h1 => k p e s m args below meth c H locs l1 C hP hS h1)
theorem VE_iadd {x y : Int32} (hd : decode M.2.1 pc = .ok (.iadd, 1))  (k : VE g R kc ks ZZ AF EX M (pc + 1) ls (vI (x + y) :: st) σ) : VE g R kc ks ZZ AF EX M pc ls (vI y :: vI x :: st) σ := by
  intro p e s m args below meth c H locs lA C hP hS hl
  exact lv_iadd C.1 C.2.1 hd  (k p e s m args below meth c H locs lA C hP hS hl)
theorem VE_isub {x y : Int32} (hd : decode M.2.1 pc = .ok (.isub, 1))  (k : VE g R kc ks ZZ AF EX M (pc + 1) ls (vI (x - y) :: st) σ) : VE g R kc ks ZZ AF EX M pc ls (vI y :: vI x :: st) σ := by
  intro p e s m args below meth c H locs lA C hP hS hl
  exact lv_isub C.1 C.2.1 hd  (k p e s m args below meth c H locs lA C hP hS hl)
theorem VE_imul {x y : Int32} (hd : decode M.2.1 pc = .ok (.imul, 1))  (k : VE g R kc ks ZZ AF EX M (pc + 1) ls (vI (x * y) :: st) σ) : VE g R kc ks ZZ AF EX M pc ls (vI y :: vI x :: st) σ := by
  intro p e s m args below meth c H locs lA C hP hS hl
  exact lv_imul C.1 C.2.1 hd  (k p e s m args below meth c H locs lA C hP hS hl)
theorem VE_iand {x y : Int32} (hd : decode M.2.1 pc = .ok (.iand, 1))  (k : VE g R kc ks ZZ AF EX M (pc + 1) ls (vI (x &&& y) :: st) σ) : VE g R kc ks ZZ AF EX M pc ls (vI y :: vI x :: st) σ := by
  intro p e s m args below meth c H locs lA C hP hS hl
  exact lv_iand C.1 C.2.1 hd  (k p e s m args below meth c H locs lA C hP hS hl)
theorem VE_ior {x y : Int32} (hd : decode M.2.1 pc = .ok (.ior, 1))  (k : VE g R kc ks ZZ AF EX M (pc + 1) ls (vI (x ||| y) :: st) σ) : VE g R kc ks ZZ AF EX M pc ls (vI y :: vI x :: st) σ := by
  intro p e s m args below meth c H locs lA C hP hS hl
  exact lv_ior C.1 C.2.1 hd  (k p e s m args below meth c H locs lA C hP hS hl)
theorem VE_ishl {x y : Int32} (hd : decode M.2.1 pc = .ok (.ishl, 1))  (k : VE g R kc ks ZZ AF EX M (pc + 1) ls (vI (x <<< (y &&& 31)) :: st) σ) : VE g R kc ks ZZ AF EX M pc ls (vI y :: vI x :: st) σ := by
  intro p e s m args below meth c H locs lA C hP hS hl
  exact lv_ishl C.1 C.2.1 hd  (k p e s m args below meth c H locs lA C hP hS hl)
theorem VE_idiv {x y : Int32} (hd : decode M.2.1 pc = .ok (.idiv, 1)) (hne : ¬ y = 0) (k : VE g R kc ks ZZ AF EX M (pc + 1) ls (vI (x / y) :: st) σ) : VE g R kc ks ZZ AF EX M pc ls (vI y :: vI x :: st) σ := by
  intro p e s m args below meth c H locs lA C hP hS hl
  exact lv_idiv C.1 C.2.1 hd hne (k p e s m args below meth c H locs lA C hP hS hl)
theorem VE_irem {x y : Int32} (hd : decode M.2.1 pc = .ok (.irem, 1)) (hne : ¬ y = 0) (k : VE g R kc ks ZZ AF EX M (pc + 1) ls (vI (x - x / y * y) :: st) σ) : VE g R kc ks ZZ AF EX M pc ls (vI y :: vI x :: st) σ := by
  intro p e s m args below meth c H locs lA C hP hS hl
  exact lv_irem C.1 C.2.1 hd hne (k p e s m args below meth c H locs lA C hP hS hl)
theorem VE_ldiv {x y : Int64} (hd : decode M.2.1 pc = .ok (.ldiv, 1)) (hne : ¬ y = 0) (k : VE g R kc ks ZZ AF EX M (pc + 1) ls (vL (x / y) :: st) σ) : VE g R kc ks ZZ AF EX M pc ls (vL y :: vL x :: st) σ := by
  intro p e s m args below meth c H locs lA C hP hS hl
  exact lv_ldiv C.1 C.2.1 hd hne (k p e s m args below meth c H locs lA C hP hS hl)
theorem VE_lrem {x y : Int64} (hd : decode M.2.1 pc = .ok (.lrem, 1)) (hne : ¬ y = 0) (k : VE g R kc ks ZZ AF EX M (pc + 1) ls (vL (x - x / y * y) :: st) σ) : VE g R kc ks ZZ AF EX M pc ls (vL y :: vL x :: st) σ := by
  intro p e s m args below meth c H locs lA C hP hS hl
  exact lv_lrem C.1 C.2.1 hd hne (k p e s m args below meth c H locs lA C hP hS hl)
theorem VE_lcmp {x y : Int64} (hd : decode M.2.1 pc = .ok (.lcmp, 1))  (k : VE g R kc ks ZZ AF EX M (pc + 1) ls (vI (lg_cmp x y) :: st) σ) : VE g R kc ks ZZ AF EX M pc ls (vL y :: vL x :: st) σ := by
  intro p e s m args below meth c H locs lA C hP hS hl
  exact W.lcmp C.1 C.2.1 hd  (k p e s m args below meth c H locs lA C hP hS hl)
theorem VE_i2l {x : Int32} (hd : decode M.2.1 pc = .ok (.i2l, 1))  (k : VE g R kc ks ZZ AF EX M (pc + 1) ls (vL x.toInt64 :: st) σ) : VE g R kc ks ZZ AF EX M pc ls (vI x :: st) σ := by
  intro p e s m args below meth c H locs lA C hP hS hl
  exact lv_i2l C.1 C.2.1 hd rfl (k p e s m args below meth c H locs lA C hP hS hl)
theorem VE_i2b {x : Int32} (hd : decode M.2.1 pc = .ok (.i2b, 1))  (k : VE g R kc ks ZZ AF EX M (pc + 1) ls (vI x.toInt8.toInt32 :: st) σ) : VE g R kc ks ZZ AF EX M pc ls (vI x :: st) σ := by
  intro p e s m args below meth c H locs lA C hP hS hl
  exact lv_i2b C.1 C.2.1 hd rfl (k p e s m args below meth c H locs lA C hP hS hl)
theorem VE_i2s {x : Int32} (hd : decode M.2.1 pc = .ok (.i2s, 1))  (k : VE g R kc ks ZZ AF EX M (pc + 1) ls (vI x.toInt16.toInt32 :: st) σ) : VE g R kc ks ZZ AF EX M pc ls (vI x :: st) σ := by
  intro p e s m args below meth c H locs lA C hP hS hl
  exact lv_i2s C.1 C.2.1 hd rfl (k p e s m args below meth c H locs lA C hP hS hl)
theorem cat1_I (g : GG) (x : Int32) : (toV g (vI x)).category = 1 := rfl
theorem cat1_R (g : GG) (x : Nat) : (toV g (vR x)).category = 1 := rfl
theorem cat1_of (g : GG) {v : MV} (h : cat2 v = false) : (toV g v).category = 1 := by
  rcases v with x | x | x
  · rfl
  · cases h
  · rfl
theorem VE_dup {a : MV} (hd : decode M.2.1 pc = .ok (.dup, 1)) (h : cat2 a = false := by rfl) (k : VE g R kc ks ZZ AF EX M (pc + 1) ls (a :: a :: st) σ) : VE g R kc ks ZZ AF EX M pc ls (a :: st) σ := by
  intro p e s m args below meth c H locs lA C hP hS hl
  exact lv_dup C.1 C.2.1 hd (cat1_of g h) (k p e s m args below meth c H locs lA C hP hS hl)
theorem VE_dup_x1 {a b : MV} (hd : decode M.2.1 pc = .ok (.dup_x1, 1)) (h : cat2 a = false := by rfl) (h2 : cat2 b = false := by rfl) (k : VE g R kc ks ZZ AF EX M (pc + 1) ls (a :: b :: a :: st) σ) : VE g R kc ks ZZ AF EX M pc ls (a :: b :: st) σ := by
  intro p e s m args below meth c H locs lA C hP hS hl
  exact lv_dup_x1 C.1 C.2.1 hd (cat1_of g h) (cat1_of g h2) (k p e s m args below meth c H locs lA C hP hS hl)
theorem VE_dup2 {a b : MV} (hd : decode M.2.1 pc = .ok (.dup2, 1)) (h : cat2 a = false := by rfl) (h2 : cat2 b = false := by rfl) (k : VE g R kc ks ZZ AF EX M (pc + 1) ls (a :: b :: a :: b :: st) σ) : VE g R kc ks ZZ AF EX M pc ls (a :: b :: st) σ := by
  intro p e s m args below meth c H locs lA C hP hS hl
  exact lv_dup2_11 C.1 C.2.1 hd (cat1_of g h) (cat1_of g h2) (k p e s m args below meth c H locs lA C hP hS hl)
theorem VE_if_eq {x : Int32} {off : Int} (tgt : Nat) (hd : decode M.2.1 pc = .ok (.ifCond .eq off, 3)) (kt : x = 0 → VE g R kc ks ZZ AF EX M tgt ls st σ) (kf : ¬ x = 0 → VE g R kc ks ZZ AF EX M (pc + 3) ls st σ) (ht : (pc : Int) + off = (tgt : Int) := by decide) : VE g R kc ks ZZ AF EX M pc ls (vI x :: st) σ := by
  intro p e s m args below meth c H locs lA C hP hS hl
  exact lv_if_eq C.1 C.2.1 hd ht (fun h => kt h p e s m args below meth c H locs lA C hP hS hl) (fun h => kf h p e s m args below meth c H locs lA C hP hS hl)
theorem VE_icmp_eq {x y : Int32} {off : Int} (tgt : Nat) (hd : decode M.2.1 pc = .ok (.if_icmp .eq off, 3)) (kt : x = y → VE g R kc ks ZZ AF EX M tgt ls st σ) (kf : ¬ x = y → VE g R kc ks ZZ AF EX M (pc + 3) ls st σ) (ht : (pc : Int) + off = (tgt : Int) := by decide) : VE g R kc ks ZZ AF EX M pc ls (vI y :: vI x :: st) σ := by
  intro p e s m args below meth c H locs lA C hP hS hl
  exact lv_icmp_eq C.1 C.2.1 hd ht (fun h => kt h p e s m args below meth c H locs lA C hP hS hl) (fun h => kf h p e s m args below meth c H locs lA C hP hS hl)
theorem VE_if_ne {x : Int32} {off : Int} (tgt : Nat) (hd : decode M.2.1 pc = .ok (.ifCond .ne off, 3)) (kt : ¬ x = 0 → VE g R kc ks ZZ AF EX M tgt ls st σ) (kf : x = 0 → VE g R kc ks ZZ AF EX M (pc + 3) ls st σ) (ht : (pc : Int) + off = (tgt : Int) := by decide) : VE g R kc ks ZZ AF EX M pc ls (vI x :: st) σ := by
  intro p e s m args below meth c H locs lA C hP hS hl
  exact lv_if_ne C.1 C.2.1 hd ht (fun h => kt h p e s m args below meth c H locs lA C hP hS hl) (fun h => kf h p e s m args below meth c H locs lA C hP hS hl)
theorem VE_icmp_ne {x y : Int32} {off : Int} (tgt : Nat) (hd : decode M.2.1 pc = .ok (.if_icmp .ne off, 3)) (kt : ¬ x = y → VE g R kc ks ZZ AF EX M tgt ls st σ) (kf : x = y → VE g R kc ks ZZ AF EX M (pc + 3) ls st σ) (ht : (pc : Int) + off = (tgt : Int) := by decide) : VE g R kc ks ZZ AF EX M pc ls (vI y :: vI x :: st) σ := by
  intro p e s m args below meth c H locs lA C hP hS hl
  exact lv_icmp_ne C.1 C.2.1 hd ht (fun h => kt h p e s m args below meth c H locs lA C hP hS hl) (fun h => kf h p e s m args below meth c H locs lA C hP hS hl)
theorem VE_if_lt {x : Int32} {off : Int} (tgt : Nat) (hd : decode M.2.1 pc = .ok (.ifCond .lt off, 3)) (kt : x < 0 → VE g R kc ks ZZ AF EX M tgt ls st σ) (kf : ¬ x < 0 → VE g R kc ks ZZ AF EX M (pc + 3) ls st σ) (ht : (pc : Int) + off = (tgt : Int) := by decide) : VE g R kc ks ZZ AF EX M pc ls (vI x :: st) σ := by
  intro p e s m args below meth c H locs lA C hP hS hl
  exact lv_if_lt C.1 C.2.1 hd ht (fun h => kt h p e s m args below meth c H locs lA C hP hS hl) (fun h => kf h p e s m args below meth c H locs lA C hP hS hl)
theorem VE_icmp_lt {x y : Int32} {off : Int} (tgt : Nat) (hd : decode M.2.1 pc = .ok (.if_icmp .lt off, 3)) (kt : x < y → VE g R kc ks ZZ AF EX M tgt ls st σ) (kf : ¬ x < y → VE g R kc ks ZZ AF EX M (pc + 3) ls st σ) (ht : (pc : Int) + off = (tgt : Int) := by decide) : VE g R kc ks ZZ AF EX M pc ls (vI y :: vI x :: st) σ := by
  intro p e s m args below meth c H locs lA C hP hS hl
  exact lv_icmp_lt C.1 C.2.1 hd ht (fun h => kt h p e s m args below meth c H locs lA C hP hS hl) (fun h => kf h p e s m args below meth c H locs lA C hP hS hl)
theorem VE_if_ge {x : Int32} {off : Int} (tgt : Nat) (hd : decode M.2.1 pc = .ok (.ifCond .ge off, 3)) (kt : 0 ≤ x → VE g R kc ks ZZ AF EX M tgt ls st σ) (kf : ¬ 0 ≤ x → VE g R kc ks ZZ AF EX M (pc + 3) ls st σ) (ht : (pc : Int) + off = (tgt : Int) := by decide) : VE g R kc ks ZZ AF EX M pc ls (vI x :: st) σ := by
  intro p e s m args below meth c H locs lA C hP hS hl
  exact lv_if_ge C.1 C.2.1 hd ht (fun h => kt h p e s m args below meth c H locs lA C hP hS hl) (fun h => kf h p e s m args below meth c H locs lA C hP hS hl)
theorem VE_icmp_ge {x y : Int32} {off : Int} (tgt : Nat) (hd : decode M.2.1 pc = .ok (.if_icmp .ge off, 3)) (kt : y ≤ x → VE g R kc ks ZZ AF EX M tgt ls st σ) (kf : ¬ y ≤ x → VE g R kc ks ZZ AF EX M (pc + 3) ls st σ) (ht : (pc : Int) + off = (tgt : Int) := by decide) : VE g R kc ks ZZ AF EX M pc ls (vI y :: vI x :: st) σ := by
  intro p e s m args below meth c H locs lA C hP hS hl
  exact lv_icmp_ge C.1 C.2.1 hd ht (fun h => kt h p e s m args below meth c H locs lA C hP hS hl) (fun h => kf h p e s m args below meth c H locs lA C hP hS hl)
theorem VE_if_gt {x : Int32} {off : Int} (tgt : Nat) (hd : decode M.2.1 pc = .ok (.ifCond .gt off, 3)) (kt : 0 < x → VE g R kc ks ZZ AF EX M tgt ls st σ) (kf : ¬ 0 < x → VE g R kc ks ZZ AF EX M (pc + 3) ls st σ) (ht : (pc : Int) + off = (tgt : Int) := by decide) : VE g R kc ks ZZ AF EX M pc ls (vI x :: st) σ := by
  intro p e s m args below meth c H locs lA C hP hS hl
  exact lv_if_gt C.1 C.2.1 hd ht (fun h => kt h p e s m args below meth c H locs lA C hP hS hl) (fun h => kf h p e s m args below meth c H locs lA C hP hS hl)
theorem VE_icmp_gt {x y : Int32} {off : Int} (tgt : Nat) (hd : decode M.2.1 pc = .ok (.if_icmp .gt off, 3)) (kt : y < x → VE g R kc ks ZZ AF EX M tgt ls st σ) (kf : ¬ y < x → VE g R kc ks ZZ AF EX M (pc + 3) ls st σ) (ht : (pc : Int) + off = (tgt : Int) := by decide) : VE g R kc ks ZZ AF EX M pc ls (vI y :: vI x :: st) σ := by
  intro p e s m args below meth c H locs lA C hP hS hl
  exact lv_icmp_gt C.1 C.2.1 hd ht (fun h => kt h p e s m args below meth c H locs lA C hP hS hl) (fun h => kf h p e s m args below meth c H locs lA C hP hS hl)
theorem VE_if_le {x : Int32} {off : Int} (tgt : Nat) (hd : decode M.2.1 pc = .ok (.ifCond .le off, 3)) (kt : x ≤ 0 → VE g R kc ks ZZ AF EX M tgt ls st σ) (kf : ¬ x ≤ 0 → VE g R kc ks ZZ AF EX M (pc + 3) ls st σ) (ht : (pc : Int) + off = (tgt : Int) := by decide) : VE g R kc ks ZZ AF EX M pc ls (vI x :: st) σ := by
  intro p e s m args below meth c H locs lA C hP hS hl
  exact lv_if_le C.1 C.2.1 hd ht (fun h => kt h p e s m args below meth c H locs lA C hP hS hl) (fun h => kf h p e s m args below meth c H locs lA C hP hS hl)
theorem VE_icmp_le {x y : Int32} {off : Int} (tgt : Nat) (hd : decode M.2.1 pc = .ok (.if_icmp .le off, 3)) (kt : x ≤ y → VE g R kc ks ZZ AF EX M tgt ls st σ) (kf : ¬ x ≤ y → VE g R kc ks ZZ AF EX M (pc + 3) ls st σ) (ht : (pc : Int) + off = (tgt : Int) := by decide) : VE g R kc ks ZZ AF EX M pc ls (vI y :: vI x :: st) σ := by
  intro p e s m args below meth c H locs lA C hP hS hl
  exact lv_icmp_le C.1 C.2.1 hd ht (fun h => kt h p e s m args below meth c H locs lA C hP hS hl) (fun h => kf h p e s m args below meth c H locs lA C hP hS hl)
theorem VE_goto {off : Int} (tgt : Nat) (hd : decode M.2.1 pc = .ok (.goto off, 3)) (k : VE g R kc ks ZZ AF EX M tgt ls st σ) (ht : (pc : Int) + off = (tgt : Int) := by decide) : VE g R kc ks ZZ AF EX M pc ls st σ := by
  intro p e s m args below meth c H locs lA C hP hS hl
  exact lv_goto C.1 C.2.1 hd ht (k p e s m args below meth c H locs lA C hP hS hl)
theorem VE_tableOut {dflt lo hi : Int} {offs : Array Int} {len : Nat} {x : Int32} (tgt : Nat) (hd : decode M.2.1 pc = .ok (.tableswitch dflt lo hi offs, len)) (h : x.toInt < lo ∨ hi < x.toInt) (k : VE g R kc ks ZZ AF EX M tgt ls st σ) (ht : (pc : Int) + dflt = (tgt : Int) := by decide) : VE g R kc ks ZZ AF EX M pc ls (vI x :: st) σ := by
  intro p e s m args below meth c H locs lA C hP hS hl
  exact lv_tableOut C.1 C.2.1 hd h ht (k p e s m args below meth c H locs lA C hP hS hl)
theorem VE_tableIn {dflt lo hi : Int} {offs : Array Int} {len : Nat} {x : Int32} {off : Int} (tgt : Nat) (hd : decode M.2.1 pc = .ok (.tableswitch dflt lo hi offs, len)) (h1 : ¬ x.toInt < lo) (h2 : ¬ hi < x.toInt) (ho : offs[(x.toInt - lo).toNat]? = some off) (k : VE g R kc ks ZZ AF EX M tgt ls st σ) (ht : (pc : Int) + off = (tgt : Int) := by decide) : VE g R kc ks ZZ AF EX M pc ls (vI x :: st) σ := by
  intro p e s m args below meth c H locs lA C hP hS hl
  exact lv_tableIn C.1 C.2.1 hd h1 h2 ho ht (k p e s m args below meth c H locs lA C hP hS hl)
theorem VE_lookup {dflt : Int} {ps : Array (Int × Int)} {len : Nat} {x : Int32} {off : Int} (tgt : Nat) (hd : decode M.2.1 pc = .ok (.lookupswitch dflt ps, len)) (hp : (ps.toList.zip (ps.toList.drop 1)).all (fun (a, next) => a.1 < next.1) = true) (ho : Op.lookupswitch.offset ps.toList dflt x.toInt = off) (k : VE g R kc ks ZZ AF EX M tgt ls st σ) (ht : (pc : Int) + off = (tgt : Int) := by decide) : VE g R kc ks ZZ AF EX M pc ls (vI x :: st) σ := by
  intro p e s m args below meth c H locs lA C hP hS hl
  exact lv_lookup C.1 C.2.1 hd hp ho ht (k p e s m args below meth c H locs lA C hP hS hl)
theorem VE_ldc2 {idx : Nat} (v : Int64) (i : Nat) (hd : decode M.2.1 pc = .ok (.ldc2_w idx, 3)) (hw : Wd i (.constantLong M.1.cls idx v)) (k : VE g R kc ks ZZ AF EX M (pc + 3) ls (vL v :: st) σ) : VE g R kc ks ZZ AF EX M pc ls st σ := by
  intro p e s m args below meth c H locs lA C hP hS hl
  exact lv_ldc2 C.1 C.2.1 C.2.2.2.2.1 (C.2.2.2.2.2.1 _ hw.U) hd (k p e s m args below meth c H locs lA C hP hS hl)
/-- the class's own facts -/
theorem cls_ok {ci : Nat} {C : String} {T : u_T} {N : Nat} (h : classes[ci]? = some (C, T, N)) : (∀ w ∈ u_ws C T N, w ∈ tblU) ∧ (∃ ty : Nat → FieldType, ∀ k, k < N → parseFieldDescriptor (T k).2.2.1 = some (ty k)) ∧ (∀ a, a < N → ∀ b, b < N → a ≠ b → (T a).2.1 ≠ (T b).2.1) ∧ (∀ k, k < N → (T k).1 = C) := by
  have up : ∀ {C : String} {T : u_T} {N : Nat}, (∀ w ∈ u_ws C T N, w ∈ lw_tbl) → ∀ w ∈ u_ws C T N, w ∈ tblU := by
    intro C T N h w hw
    refine List.mem_filter.mpr ⟨h w hw, ?_⟩
    obtain ⟨k, -, rfl⟩ := List.mem_map.mp hw
    unfold u_lay
    split <;> rfl
  match ci, h with
  | 0, h => cases h; exact ⟨up inX0, ⟨_, tyX0_ok⟩, nmX0, by decide +kernel⟩
  | 1, h => cases h; exact ⟨up inX1, ⟨_, tyX1_ok⟩, nmX1, by decide +kernel⟩
  | 2, h => cases h; exact ⟨up inX2, ⟨_, tyX2_ok⟩, nmX2, by decide +kernel⟩
  | 3, h => cases h; exact ⟨up inX3, ⟨_, tyX3_ok⟩, nmX3, by decide +kernel⟩
  | 4, h => cases h; exact ⟨up inX4, ⟨_, tyX4_ok⟩, nmX4, by decide +kernel⟩
  | 5, h => cases h; exact ⟨up inX5, ⟨_, tyX5_ok⟩, nmX5, by decide +kernel⟩
  | k + 6, h => simp [classes] at h
/-- the field link idx of the class own: the field k of the class ci -/
def FL (own : String) (idx ci k : Nat) : Prop := ∃ (C : String) (T : u_T) (N i : Nat), classes[ci]? = some (C, T, N) ∧ k < N ∧ (Wd i (.fieldLink own idx C (T k).2.1 (T k).2.2.1) ∨ Wd i (.fieldLinkNest own idx C (T k).2.1 (T k).2.2.1 "FaceGlass"))
theorem VE_getV {idx ci k j : Nat} {r : Option Nat} (hd : decode M.2.1 pc = .ok (.getfield idx, 3)) (hf : FL M.1.cls idx ci k) (ho : ofld j ci k = some r) (v : MV) (hv : toV g v = fvv g r (σ j k)) (kk : VE g R kc ks ZZ AF EX M (pc + 3) ls (v :: st) σ) : VE g R kc ks ZZ AF EX M pc ls (vR j :: st) σ := by
  intro p e s m args below meth c H locs lA C hP hS hl
  obtain ⟨Cn, T, N, i, hc, hk, hw⟩ := hf
  obtain ⟨l, hs, hlk⟩ := ofld_sh ho
  obtain ⟨hj, hcel⟩ := cel_o (g := g) hs (σ j)
  obtain ⟨hin, -, -, hown⟩ := cls_ok hc
  have he : (WS g σ)[j]? = some (g.2.2.1 j, .inr (ci, fvs g l (σ j))) := by rw [WS_at g σ hj, hcel]
  have hK := C.2.2.2.2.2.2.2.1
  have hts := C.2.2.2.2.2.1
  have kk' := kk p e s m args below meth c H locs lA C hP hS hl
  have hv2 : (fvs g l (σ j))[k]? = some (toV g v) := by rw [fvs_at hlk, hv]
  rcases hw with hw | hw
  · exact va_get (D := g.2.1) (tys := tysG g) C.1 C.2.1 hts hin C.2.2.2.2.1 hK hP j he hc k hk (hts _ hw.U) (fun x h => by rw [hown k hk] at h; exact h) hv2 hd kk'
  · exact va_getN (D := g.2.1) (tys := tysG g) C.1 C.2.1 hts hin C.2.2.2.2.1 hK hP j he hc k hk (hts _ hw.U) (fun x h => by rw [hown k hk] at h; exact h) hv2 hd kk'
theorem VE_getI {idx ci k j : Nat} (hd : decode M.2.1 pc = .ok (.getfield idx, 3)) (hf : FL M.1.cls idx ci k) (kk : VE g R kc ks ZZ AF EX M (pc + 3) ls (vI (σ j k) :: st) σ) (ho : ofld j ci k = some none := by rfl) : VE g R kc ks ZZ AF EX M pc ls (vR j :: st) σ := VE_getV hd hf ho (vI (σ j k)) rfl kk
theorem VE_getR {idx ci k j : Nat} (t : Nat) (hd : decode M.2.1 pc = .ok (.getfield idx, 3)) (hf : FL M.1.cls idx ci k) (kk : VE g R kc ks ZZ AF EX M (pc + 3) ls (vR t :: st) σ) (ho : ofld j ci k = some (some t) := by rfl) : VE g R kc ks ZZ AF EX M pc ls (vR j :: st) σ := VE_getV hd hf ho (vR t) rfl kk
theorem VE_put {idx ci k j : Nat} {x : Int32} (hd : decode M.2.1 pc = .ok (.putfield idx, 3)) (hf : FL M.1.cls idx ci k) (kk : VE g R kc ks ZZ AF EX M (pc + 3) ls st (sU σ j k x)) (ho : ofld j ci k = some none := by rfl) (hfin : ((classes[ci]?).map (fun q => ((q.2.1 k).2.2.2, (q.2.1 k).2.2.1))) = some (false, "I") := by rfl) : VE g R kc ks ZZ AF EX M pc ls (vI x :: vR j :: st) σ := by
  intro p e s m args below meth c H locs lA C hP hS hl
  obtain ⟨Cn, T, N, i, hc, hk, hw⟩ := hf
  obtain ⟨l, hs, hlk⟩ := ofld_sh ho
  obtain ⟨hj, hcel⟩ := cel_o (g := g) hs (σ j)
  obtain ⟨hj, hcel2⟩ := cel_o (g := g) hs (upd (σ j) k x)
  obtain ⟨hin, ⟨ty, hty⟩, hnm, hown⟩ := cls_ok hc
  have he : (WS g σ)[j]? = some (g.2.2.1 j, .inr (ci, fvs g l (σ j))) := by rw [WS_at g σ hj, hcel]
  have hK := C.2.2.2.2.2.2.2.1
  have hts := C.2.2.2.2.2.1
  have hAp := C.2.2.2.2.2.2.2.2.1
  rw [hc] at hfin
  have hf1 : (T k).2.2.2 = false := congrArg Prod.fst (Option.some.inj hfin)
  have hf2 : (T k).2.2.1 = "I" := congrArg Prod.snd (Option.some.inj hfin)
  have hll : k < (fvs g l (σ j)).length := (List.getElem?_eq_some_iff.mp (fvs_at (g := g) (f := σ j) hlk)).1
  have hset : (WS g σ).set j (g.2.2.1 j, .inr (ci, (fvs g l (σ j)).set k (.int x))) = WS g (sU σ j k x) := WS_set g σ _ hj _ (by rw [sU_s, hcel2, fvs_set hlk]) (fun i hi => sU_o hi)
  have kk' : ∀ (H1 : Heap) (locs1 : List Loc), va_P g.2.1 classes ((WS g σ).set j (g.2.2.1 j, .inr (ci, (fvs g l (σ j)).set k (.int x)))) H1 → va_D (AF s) ((WS g σ).set j (g.2.2.1 j, .inr (ci, (fvs g l (σ j)).set k (.int x)))) → va_S (AF s) s.heap H1 locs1 → W p g.1 e R s m args below meth c H1 locs1 kc ks (ZZ below args s) (F0 m (pc + 3) lA (stV g st)) := fun H1 locs1 hP1 _ hS1 => kk p e s m args below meth c H1 locs1 lA C (by rw [hset] at hP1; exact hP1) hS1 hl
  rcases hw with hw | hw
  · exact va_put (D := g.2.1) (tys := tysG g) (ty := .int) C.1 C.2.1 hts hin ty hty hnm C.2.2.2.2.1 hK hP (WS_D hAp.1 hAp.2 σ) hS j he hc k hk (hts _ hw.U) (fun x h => by rw [hown k hk] at h; exact h) hf1 (by rw [hf2]; rfl) rfl rfl hll hd kk'
  · exact va_putN (D := g.2.1) (tys := tysG g) (ty := .int) C.1 C.2.1 hts hin ty hty hnm C.2.2.2.2.1 hK hP (WS_D hAp.1 hAp.2 σ) hS j he hc k hk (hts _ hw.U) (fun x h => by rw [hown k hk] at h; exact h) hf1 (by rw [hf2]; rfl) rfl rfl hll hd kk'
/-- int arrays -/
theorem VE_iald {j : Nat} {i : Int32} (hd : decode M.2.1 pc = .ok (.iaload, 1)) (hin : vp_in i (alen j)) (kk : VE g R kc ks ZZ AF EX M (pc + 1) ls (vI (σ j i.toNatClampNeg) :: st) σ) (ha : isA j = true := by rfl) : VE g R kc ks ZZ AF EX M pc ls (vI i :: vR j :: st) σ := by
  intro p e s m args below meth c H locs lA C hP hS hl
  obtain ⟨-, hj, hc⟩ := isA_sh ha
  exact va_iald (D := g.2.1) (tys := tysG g) C.1 C.2.1 C.2.2.2.2.2.2.2.1 hP j 0 (f := σ j) (by rw [WS_at g σ hj, hc]) rfl hin hd (kk p e s m args below meth c H locs lA C hP hS hl)
theorem VE_iast {j : Nat} {i x : Int32} (hd : decode M.2.1 pc = .ok (.iastore, 1)) (hin : vp_in i (alen j)) (kk : VE g R kc ks ZZ AF EX M (pc + 1) ls st (sU σ j i.toNatClampNeg x)) (ha : isA j = true := by rfl) : VE g R kc ks ZZ AF EX M pc ls (vI x :: vI i :: vR j :: st) σ := by
  intro p e s m args below meth c H locs lA C hP hS hl
  obtain ⟨-, hj, hc⟩ := isA_sh ha
  have hAp := C.2.2.2.2.2.2.2.2.1
  have hset : (WS g σ).set j (g.2.2.1 j, .inl (g.2.2.2.1, alen j, .inl (upd (σ j) i.toNatClampNeg x))) = WS g (sU σ j i.toNatClampNeg x) := WS_set g σ _ hj _ (by rw [sU_s, hc]) (fun i hi => sU_o hi)
  exact va_iast (D := g.2.1) (tys := tysG g) C.1 C.2.1 C.2.2.2.2.2.2.2.1 hP (WS_D hAp.1 hAp.2 σ) hS j 0 (f := σ j) (by rw [WS_at g σ hj, hc]) rfl hin hd (fun H1 locs1 hP1 _ hS1 => kk p e s m args below meth c H1 locs1 lA C (by rw [hset] at hP1; exact hP1) hS1 hl)
/-- the row of sheets -/
theorem VE_aald {i : Int32} (hd : decode M.2.1 pc = .ok (.aaload, 1)) (hin : vp_in i 4) (kk : VE g R kc ks ZZ AF EX M (pc + 1) ls (vR (2 + i.toNatClampNeg) :: st) σ) : VE g R kc ks ZZ AF EX M pc ls (vI i :: vR 1 :: st) σ := by
  intro p e s m args below meth c H locs lA C hP hS hl
  exact va_aldq (D := g.2.1) (tys := tysG g) (C := RX3) (f := fun i => some (g.2.2.1 (2 + i))) C.1 C.2.1 C.2.2.2.2.2.2.2.1 hP 1 1 (by rw [WS_at g σ (by decide)]; rfl) rfl hin hd (kk p e s m args below meth c H locs lA C hP hS hl)
end VEI
end
section
/-! returns, calls, a method's beginning -/
section RET
variable {g : GG} {d : Nat} {M : MD} {Q : MV → St → Prop} {pc : Nat} {ls : List (Nat × MV)} {σ : St}
theorem QcM_of {H : Heap} {locs : List Loc} {args : Array Value} {s : State} {rt : Option FieldType} {v : MV} (hP : va_P g.2.1 classes (WS g σ) H) (hS : va_S (AA g) s.heap H locs) (hQ : Q v σ) {o : Option Value} (ho : o = rvM g rt v) : ∀ t : State, t.heap = H → s.WarmedH t.vm → QcM g rt Q args s (.returned o) t :=
  fun t ht _ => ⟨⟨v, σ, by rw [ho], hQ, by rw [ht]; exact hP⟩, hS.F ht⟩
theorem VM_iret {v : Int32} (hd : decode M.2.1 pc = .ok (.ireturn, 1)) (hQ : Q (vI v) σ) (hr : M.2.2.2 = some .int := by rfl) : VM g d M Q pc ls [vI v] σ := by
  intro p e s m args below meth c H locs lA C hP hS hl
  exact W.iret (v := v) C.1 C.2.1 (by rw [C.2.2.1, hr]) (QcM_of hP hS hQ (by rw [hr]; rfl)) hS.2.2 hd C.2.2.2.2.2.2.1
theorem VM_zret {v : Int32} (hd : decode M.2.1 pc = .ok (.ireturn, 1)) (hQ : Q (vI v) σ) (hv : v = 0 ∨ v = 1) (hr : M.2.2.2 = some .boolean := by rfl) : VM g d M Q pc ls [vI v] σ := by
  intro p e s m args below meth c H locs lA C hP hS hl
  exact W.zret (v := v) (ty := .boolean) C.1 C.2.1 (by rw [C.2.2.1, hr]) (by rcases hv with rfl | rfl <;> rfl) (QcM_of hP hS hQ (by rw [hr]; rfl)) hS.2.2 hd C.2.2.2.2.2.2.1
theorem VM_lret {v : Int64} (hd : decode M.2.1 pc = .ok (.lreturn, 1)) (hQ : Q (vL v) σ) (hr : M.2.2.2 = some .long := by rfl) : VM g d M Q pc ls [vL v] σ := by
  intro p e s m args below meth c H locs lA C hP hS hl
  exact W.lret (v := v) C.1 C.2.1 (by rw [C.2.2.1, hr]) (QcM_of hP hS hQ (by rw [hr]; rfl)) hS.2.2 hd C.2.2.2.2.2.2.1
theorem VM_vret (hd : decode M.2.1 pc = .ok (.return_, 1)) (hQ : Q (vI 0) σ) (hr : M.2.2.2 = none := by rfl) : VM g d M Q pc ls [] σ := by
  intro p e s m args below meth c H locs lA C hP hS hl
  exact W.vret C.1 C.2.1 (by rw [C.2.2.1, hr]) (QcM_of (v := vI 0) hP hS hQ (by rw [hr]; rfl)) hS.2.2 hd C.2.2.2.2.2.2.1
end RET
def agL : Nat → List MV → List (Nat × MV)
  | _, [] => []
  | i, v :: vs => (i, v) :: agL (if cat2 v = true then i + 2 else i + 1) vs
theorem agL_ok (g : GG) : ∀ (as : List MV) (i : Nat), lv_args i (as.map (toV g)) = lsV g (agL i as)
  | [], _ => rfl
  | v :: vs, i => by
    show (i, toV g v) :: lv_args _ _ = (i, toV g v) :: lsV g _
    rw [← agL_ok g vs]
    congr 2
    rcases v with x | x | x <;> rfl
def wdL (as : List MV) : Nat := (as.map (fun v => if cat2 v = true then 2 else 1)).sum
theorem wdL_sl (g : GG) : ∀ as : List MV, (lg_sl (as.map (toV g))).length = wdL as
  | [] => rfl
  | v :: vs => by
    have ih := wdL_sl g vs
    have e : lg_sl ((v :: vs).map (toV g)) = lg_sl [toV g v] ++ lg_sl (vs.map (toV g)) := by simp [lg_sl]
    rw [e, List.length_append, ih]
    show _ = (if cat2 v = true then 2 else 1) + wdL vs
    congr 1
    rcases v with x | x | x <;> rfl
theorem wdL_cat (g : GG) : ∀ as : List MV, ((stV g as).map (fun v => v.category)).sum = wdL as
  | [] => rfl
  | v :: vs => by
    have ih := wdL_cat g vs
    show (toV g v).category + ((stV g vs).map (fun v => v.category)).sum = (if cat2 v = true then 2 else 1) + wdL vs
    rw [ih]
    congr 1
    rcases v with x | x | x <;> rfl
/-- a method's contract out of a walk from its beginning -/
theorem ME_of {g : GG} {d : Nat} {M : MD} {as : List MV} {σ : St} {Q : MV → St → Prop} (k : VM g d M Q 0 (agL 0 as) [] σ) (hp : plainName M.1.cls = true := by decide) (hw : Nat.ble (wdL as) M.2.2.1 = true := by rfl) : ME g d M as σ Q := by
  intro hA
  refine Met.ofW (cc := M.2.1) (maxL := M.2.2.1) (ret := M.2.2.2) hp rfl ?_
  intro p e s m args below meth c s₁ B hml hv
  obtain ⟨rfl, hP, hK, hN⟩ := hv
  have hts := atoms_spec (ws := wsM M) B.pre
  have hts2 : ∀ w ∈ tblU, w.before ((as.map (toV g)).toArray) s = true := NW_hts (fun w hw => hts w (List.mem_cons_of_mem _ hw)) hN
  rw [lg_entry_eq]
  have hl := lv_entry (as.map (toV g)) (n := M.2.2.1) (by rw [wdL_sl]; exact Nat.le_of_ble_eq_true hw)
  rw [agL_ok] at hl
  exact k p e s m _ below meth c s.heap [] _ ⟨B.exec, B.bytes, B.returns, hml, findClass_of_methodNamed B.named, hts2, B.notSynchronized, hK, ⟨hA, fun j hj => ⟨j, hj, rfl⟩⟩, trivial⟩ hP va_S.rf hl
theorem FB_M (g : GG) (as : List MV) (σ : St) : FrameBlind (PcM g as σ) := by
  intro a U f mk h
  obtain ⟨h1, h2, h3, h4⟩ := h
  exact ⟨h1, h2, va_K.moved (u := U) (U := U.calling f mk a) (Vm.Alike.refl U.vm) h3, NW_same (u := U) (U := U.calling f mk a) rfl h4⟩
theorem Pc_M {g : GG} {as : List MV} {σ : St} {H : Heap} {s : State} {args : Array Value} (hP : va_P g.2.1 classes (WS g σ) H) (hK : va_K g.2.1 classes (tysG g) s) (hts : ∀ w ∈ tblU, w.before args s = true) : ∀ U : State, U.heap = H → s.WarmedH U.vm → PcM g as σ (as.map (toV g)).toArray U :=
  fun U hU hW => ⟨rfl, by rw [hU]; exact hP, va_K.moved hW.alike hK, NW_warm hW hts⟩
theorem callG {g : GG} {p : Program} {e : Env} {R : Room} {s : State} {m : MethodId} {args : Array Value} {below : List Frame} {meth : Method} {c : Code} {H H0 : Heap} {locs : List Loc} {kc ks : Nat} {Z : State → Prop} {pc : Nat} {ls : Array Slot} {st0 rest : List Value} {rt : Option FieldType} {Q : MV → St → Prop} {a : Array Value} {A0 : Nat → Prop}
    (hr : va_Run p g.1 e R s m args below meth c H locs kc ks 0 0 (F0 m pc ls st0) rest (QcM g rt Q a) (AA g)) (hS : va_S A0 H0 H locs) (hA : ∀ q, AA g q → A0 q)
    (kk : ∀ (r : MV) (σ' : St) (H1 : Heap) (locs1 : List Loc), Q r σ' → va_P g.2.1 classes (WS g σ') H1 → va_S A0 H0 H1 locs1 → W p g.1 e R s m args below meth c H1 locs1 kc ks Z (F0 m (pc + 3) ls ((rvM g rt r).toList ++ rest))) : W p g.1 e R s m args below meth c H locs kc ks Z (F0 m pc ls st0) := by
  intro T hT X
  obtain ⟨v, st₀, t, T', L, h0, X', hL, e1, e2, ⟨⟨r, σ', hv, hq, hp⟩, hz, hk⟩, st⟩ := hr T hT X
  cases hv
  rw [h0] at hz hk
  obtain ⟨t2, a1, b1⟩ := kk r σ' T'.heap (locs ++ L) hq (by rw [e1]; exact hp)
    ⟨Nat.le_trans hS.1 (by rw [e1]; exact hz), fun q h1 h2 => by rw [e1, hk q (Nat.lt_of_lt_of_le h1 hS.1) (fun z => h2 (hA q z))]; exact hS.2.1 q h1 h2, fun q hq => by
      rcases List.mem_append.mp hq with h | h
      · exact hS.2.2 q h
      · exact hA _ (hL q h)⟩ T' rfl X'
  exact ⟨t2, st t2 a1, b1⟩
/-- what the tables hold of a method that is called -/
def MC (Z : MD) (n : Nat) : Prop := ∃ i4 i5 : Nat, Wd i4 (.initialized Z.1.cls) ∧ Wd i5 (.code Z.1 Z.2.1 Z.2.2.1 Z.2.2.2) ∧ (Z.1.cls ≠ "java/lang/invoke/MethodHandle" ∧ Z.1.cls ≠ "java/lang/invoke/VarHandle" ∧ (parseMethodDescriptor Z.1.desc).map (fun d => d.parameters.length) = some n) ∧ Z.2.2.1 ≤ 20
def MV1 (own : String) (idx : Nat) (Z : MD) (n : Nat) : Prop := ∃ i1 i2 i3 : Nat, Wd i1 (.methodLink own idx Z.1) ∧ Wd i2 (.instanceMethod Z.1) ∧ Wd i3 (.selects Z.1.cls Z.1 Z.1) ∧ MC Z n
def MS1 (own : String) (idx : Nat) (Z : MD) (n : Nat) : Prop := ∃ i1 i2 : Nat, (Wd i1 (.methodLink own idx Z.1) ∨ Wd i1 (.methodLinkNest own idx Z.1 "FaceGlass")) ∧ Wd i2 (.static Z.1) ∧ MC Z n
theorem wsM_good {Z : MD} {i : Nat} (h : Wd i (.code Z.1 Z.2.1 Z.2.2.1 Z.2.2.2)) : GoodIn tblU (wsM Z) := by
  intro w hw
  rcases List.mem_cons.mp hw with rfl | hw
  · exact ⟨h.U, good_of_word rfl⟩
  · exact ⟨tblG_U w hw, good_of_word (List.mem_filter.mp hw).2⟩
def ocl (j : Nat) : Option String := match shp j with
  | .inr q => (classes[q.1]?).map (fun r => r.1)
  | .inl _ => none
def rl (rt : Option FieldType) (r : MV) : List MV := match rt with
  | none => []
  | some _ => [r]
theorem rl_ok (g : GG) (rt : Option FieldType) (r : MV) (st : List MV) : (rvM g rt r).toList ++ stV g st = stV g (rl rt r ++ st) := by
  cases rt <;> rfl
def rok (R : Room) (kc ks d : Nat) : Prop := d + 1 ≤ R.frames ∧ 40 * d + 40 ≤ R.locals ∧ kc ≤ R.cells ∧ ks ≤ R.slots
theorem rok_D (d : Nat) : rok (rmD (d + 1)) 0 0 d := ⟨Nat.le_refl _, by show 40 * d + 40 ≤ 40 * (d + 1); omega, Nat.le_refl _, Nat.le_refl _⟩
section CALL
variable {g : GG} {R : Room} {kc ks : Nat} {ZZ : List Frame → Array Value → State → State → Prop} {AF : State → Nat → Prop} {EX : State → Prop} {M : MD} {pc : Nat} {ls : List (Nat × MV)} {st st0 : List MV} {σ : St}
theorem recvM {j : Nat} {C : String} {s : State} {H : Heap} (hj : ocl j = some C) (hK : va_K g.2.1 classes (tysG g) s) (hP : va_P g.2.1 classes (WS g σ) H) : ∃ cell : Cell, H[g.2.2.1 j]? = some cell ∧ cell.vm.isStatics = false ∧ s.vm.findClass C = some cell.cls := by
  unfold ocl at hj
  cases hs : shp j with
  | inl n => rw [hs] at hj; cases hj
  | inr q =>
    rw [hs] at hj
    obtain ⟨ci, l⟩ := q
    dsimp only at hj
    cases hc : classes[ci]? with
    | none => rw [hc] at hj; cases hj
    | some r =>
      rw [hc] at hj
      cases hj
      obtain ⟨hl, hcel⟩ := cel_o (g := g) hs (σ j)
      exact va_recv hK hP hc (q0 := j) (fs := fvs g l (σ j)) (by rw [WS_at g σ hl, hcel])
theorem VE_callV {idx d j n : Nat} {Z : MD} (as : List MV) (hd : decode M.2.1 pc = .ok (.invokevirtual idx, 3)) (ml : MV1 M.1.cls idx Z n) (hM : ME g d Z (vR j :: as) σ (fun r σ' => VE g R kc ks ZZ AF EX M (pc + 3) ls (rl Z.2.2.2 r ++ st) σ')) (hR : rok R kc ks d) (hj : ocl j = some Z.1.cls := by rfl) (hn : as.length = n := by rfl) (hst : as.reverse ++ vR j :: st = st0 := by rfl) (hw : Nat.ble (wdL st) 8 = true := by rfl) : VE g R kc ks ZZ AF EX M pc ls st0 σ := by
  subst hst
  intro p e s m args below meth c H locs lA C hP hS hl
  obtain ⟨i1, i2, i3, w1, w2, w3, i4, i5, w4, w5, hdd, hmx⟩ := ml
  have hts := C.2.2.2.2.2.1
  have hK := C.2.2.2.2.2.2.2.1
  have hAp := C.2.2.2.2.2.2.2.2.1
  have hG : GoodIn tblU (wsV M.1.cls idx Z.1.cls Z.1 (wsM Z)) := by
    intro w hw
    rcases List.mem_append.mp hw with h | h
    · simp only [List.mem_cons, List.not_mem_nil, or_false] at h
      rcases h with rfl | rfl | rfl | rfl
      · exact ⟨w1.U, good_of_word rfl⟩
      · exact ⟨w2.U, good_of_word rfl⟩
      · exact ⟨w3.U, good_of_word rfl⟩
      · exact ⟨w4.U, good_of_word rfl⟩
    · exact wsM_good w5 w h
  refine callG (va_runV (As := stV g as) (rest := stV g st) ⟨C.1, C.2.1, C.2.2.2.1, C.2.2.2.2.1, hts⟩ (hM hAp.1) (cwV n hts hG rfl rfl rfl ⟨rfl, hdd⟩ ⟨hR.1, ?_⟩) ⟨FB_M g _ σ, recvM hj hK hP, fun U hU hW => Pc_M hP hK hts U hU hW⟩ rfl (by rw [List.length_map]; exact hn) hl.1 (by simp [stV, toV]) (lv_room (by rw [wdL_cat]; exact Nat.le_of_ble_eq_true hw)) hd ⟨hR.2.2.1, hR.2.2.2⟩) hS (fun q hq => ?_) (fun r σ' H1 locs1 hk hP1 hS1 => ?_)
  · show 8 + (Z.2.2.1 + 11) + 40 * d ≤ R.locals
    have := hR.2.1
    omega
  · obtain ⟨j, hj, rfl⟩ := hq
    exact hAp.2 j hj
  · rw [rl_ok]
    exact hk p e s m args below meth c H1 locs1 lA C hP1 hS1 hl
theorem VE_callS {idx d n : Nat} {Z : MD} (as : List MV) (hd : decode M.2.1 pc = .ok (.invokestatic idx, 3)) (ml : MS1 M.1.cls idx Z n) (hM : ME g d Z as σ (fun r σ' => VE g R kc ks ZZ AF EX M (pc + 3) ls (rl Z.2.2.2 r ++ st) σ')) (hR : rok R kc ks d) (hn : as.length = n := by rfl) (hst : as.reverse ++ st = st0 := by rfl) (hw : Nat.ble (wdL st) 8 = true := by rfl) : VE g R kc ks ZZ AF EX M pc ls st0 σ := by
  subst hst
  intro p e s m args below meth c H locs lA C hP hS hl
  obtain ⟨i1, i2, w1, w2, i4, i5, w4, w5, hdd, hmx⟩ := ml
  have hts := C.2.2.2.2.2.1
  have hK := C.2.2.2.2.2.2.2.1
  have hAp := C.2.2.2.2.2.2.2.2.1
  have hlo : 8 + (Z.2.2.1 + 11) + (rmD d).locals ≤ R.locals := by
    show 8 + (Z.2.2.1 + 11) + 40 * d ≤ R.locals
    have := hR.2.1
    omega
  have fin : ∀ (r : MV) (σ' : St) (H1 : Heap) (locs1 : List Loc), VE g R kc ks ZZ AF EX M (pc + 3) ls (rl Z.2.2.2 r ++ st) σ' → va_P g.2.1 classes (WS g σ') H1 → va_S (AF s) s.heap H1 locs1 → W p g.1 e R s m args below meth c H1 locs1 kc ks (ZZ below args s) (F0 m (pc + 3) lA ((rvM g Z.2.2.2 r).toList ++ stV g st)) := by
    intro r σ' H1 locs1 hk hP1 hS1
    rw [rl_ok]
    exact hk p e s m args below meth c H1 locs1 lA C hP1 hS1 hl
  have hAF : ∀ q, AA g q → AF s q := by
    intro q hq
    obtain ⟨j, hj, rfl⟩ := hq
    exact hAp.2 j hj
  have hstk : stV g (as.reverse ++ st) = (stV g as).reverse ++ stV g st := by simp [stV]
  rcases w1 with w1 | w1
  · exact callG (va_runS (As := stV g as) (rest := stV g st) ⟨C.1, C.2.1, C.2.2.2.1, C.2.2.2.2.1, hts⟩ (hM hAp.1) ⟨callB_of n hts (wsM_good w5) rfl rfl rfl (hts _ w4.U) (hts _ w1.U) hdd ⟨hR.1, hlo⟩, hts _ w2.U⟩ ⟨FB_M g _ σ, fun U hU hW => Pc_M hP hK hts U hU hW⟩ rfl (by rw [List.length_map]; exact hn) hl.1 hstk (lv_room (by rw [wdL_cat]; exact Nat.le_of_ble_eq_true hw)) hd ⟨hR.2.2.1, hR.2.2.2⟩) hS hAF fin
  · exact callG (va_runSN (As := stV g as) (rest := stV g st) ⟨C.1, C.2.1, C.2.2.2.1, C.2.2.2.2.1, hts⟩ (hM hAp.1) ⟨va_cnB n hts (wsM_good w5) rfl rfl rfl (va_Nw.of rfl (hts _ w1.U)) (hts _ w4.U) hdd ⟨hR.1, hlo⟩, hts _ w2.U, trivial⟩ ⟨FB_M g _ σ, fun U hU hW => Pc_M hP hK hts U hU hW⟩ rfl (by rw [List.length_map]; exact hn) hl.1 hstk (lv_room (by rw [wdL_cat]; exact Nat.le_of_ble_eq_true hw)) hd ⟨hR.2.2.1, hR.2.2.2⟩) hS hAF fin
end CALL
end
section
/-! contracts by the kind of answer; sheets; switches; arraycopy -/
theorem ME_mono {g : GG} {d : Nat} {M : MD} {as : List MV} {σ : St} {Q Q' : MV → St → Prop} (h : ME g d M as σ Q) (hQ : ∀ r σ', Q r σ' → Q' r σ') : ME g d M as σ Q' := by
  intro hA p e ha hc hk s m args below hf happ hp hK
  obtain ⟨n, o, h1, h2, h3, ⟨⟨r, σ', e1, e2, e3⟩, h5⟩, h6⟩ := h hA p e ha hc hk s m args below hf happ hp hK
  exact ⟨n, o, h1, h2, h3, ⟨⟨r, σ', e1, hQ r σ' e2, e3⟩, h5⟩, h6⟩
def qI (F : Int32 → St → Prop) : MV → St → Prop := fun r σ => match r with
  | .inl x => F x σ
  | _ => False
def qL (F : Int64 → St → Prop) : MV → St → Prop := fun r σ => match r with
  | .inr (.inl x) => F x σ
  | _ => False
def qV (F : St → Prop) : MV → St → Prop := fun _ σ => F σ
section TCALL
variable {g : GG} {R : Room} {kc ks : Nat} {ZZ : List Frame → Array Value → State → State → Prop} {AF : State → Nat → Prop} {EX : State → Prop} {M : MD} {pc : Nat} {ls : List (Nat × MV)} {st st0 : List MV} {σ : St}
theorem VE_cVi {idx d j n : Nat} {Z : MD} {F : Int32 → St → Prop} (as : List MV) (hd : decode M.2.1 pc = .ok (.invokevirtual idx, 3)) (ml : MV1 M.1.cls idx Z n) (hM : ME g d Z (vR j :: as) σ (qI F)) (kk : ∀ x σ', F x σ' → VE g R kc ks ZZ AF EX M (pc + 3) ls (vI x :: st) σ') (hR : rok R kc ks d) (hz : ∀ r, rl Z.2.2.2 r = [r] := by exact fun _ => rfl) (hj : ocl j = some Z.1.cls := by rfl) (hn : as.length = n := by rfl) (hst : as.reverse ++ vR j :: st = st0 := by rfl) (hw : Nat.ble (wdL st) 8 = true := by rfl) : VE g R kc ks ZZ AF EX M pc ls st0 σ := by
  refine VE_callV as hd ml (ME_mono hM (fun r σ' hq => ?_)) hR hj hn hst hw
  rw [hz r]
  rcases r with x | x | x
  · exact kk x σ' hq
  · exact hq.elim
  · exact hq.elim
theorem VE_cVl {idx d j n : Nat} {Z : MD} {F : Int64 → St → Prop} (as : List MV) (hd : decode M.2.1 pc = .ok (.invokevirtual idx, 3)) (ml : MV1 M.1.cls idx Z n) (hM : ME g d Z (vR j :: as) σ (qL F)) (kk : ∀ x σ', F x σ' → VE g R kc ks ZZ AF EX M (pc + 3) ls (vL x :: st) σ') (hR : rok R kc ks d) (hz : ∀ r, rl Z.2.2.2 r = [r] := by exact fun _ => rfl) (hj : ocl j = some Z.1.cls := by rfl) (hn : as.length = n := by rfl) (hst : as.reverse ++ vR j :: st = st0 := by rfl) (hw : Nat.ble (wdL st) 8 = true := by rfl) : VE g R kc ks ZZ AF EX M pc ls st0 σ := by
  refine VE_callV as hd ml (ME_mono hM (fun r σ' hq => ?_)) hR hj hn hst hw
  rw [hz r]
  rcases r with x | x | x
  · exact hq.elim
  · exact kk x σ' hq
  · exact hq.elim
theorem VE_cVv {idx d j n : Nat} {Z : MD} {F : St → Prop} (as : List MV) (hd : decode M.2.1 pc = .ok (.invokevirtual idx, 3)) (ml : MV1 M.1.cls idx Z n) (hM : ME g d Z (vR j :: as) σ (qV F)) (kk : ∀ σ', F σ' → VE g R kc ks ZZ AF EX M (pc + 3) ls st σ') (hR : rok R kc ks d) (hz : ∀ r, rl Z.2.2.2 r = [] := by exact fun _ => rfl) (hj : ocl j = some Z.1.cls := by rfl) (hn : as.length = n := by rfl) (hst : as.reverse ++ vR j :: st = st0 := by rfl) (hw : Nat.ble (wdL st) 8 = true := by rfl) : VE g R kc ks ZZ AF EX M pc ls st0 σ := by
  refine VE_callV as hd ml (ME_mono hM (fun r σ' hq => ?_)) hR hj hn hst hw
  rw [hz r]
  exact kk σ' hq
theorem VE_cSi {idx d n : Nat} {Z : MD} {F : Int32 → St → Prop} (as : List MV) (hd : decode M.2.1 pc = .ok (.invokestatic idx, 3)) (ml : MS1 M.1.cls idx Z n) (hM : ME g d Z as σ (qI F)) (kk : ∀ x σ', F x σ' → VE g R kc ks ZZ AF EX M (pc + 3) ls (vI x :: st) σ') (hR : rok R kc ks d) (hz : ∀ r, rl Z.2.2.2 r = [r] := by exact fun _ => rfl) (hn : as.length = n := by rfl) (hst : as.reverse ++ st = st0 := by rfl) (hw : Nat.ble (wdL st) 8 = true := by rfl) : VE g R kc ks ZZ AF EX M pc ls st0 σ := by
  refine VE_callS as hd ml (ME_mono hM (fun r σ' hq => ?_)) hR hn hst hw
  rw [hz r]
  rcases r with x | x | x
  · exact kk x σ' hq
  · exact hq.elim
  · exact hq.elim
theorem VE_cSl {idx d n : Nat} {Z : MD} {F : Int64 → St → Prop} (as : List MV) (hd : decode M.2.1 pc = .ok (.invokestatic idx, 3)) (ml : MS1 M.1.cls idx Z n) (hM : ME g d Z as σ (qL F)) (kk : ∀ x σ', F x σ' → VE g R kc ks ZZ AF EX M (pc + 3) ls (vL x :: st) σ') (hR : rok R kc ks d) (hz : ∀ r, rl Z.2.2.2 r = [r] := by exact fun _ => rfl) (hn : as.length = n := by rfl) (hst : as.reverse ++ st = st0 := by rfl) (hw : Nat.ble (wdL st) 8 = true := by rfl) : VE g R kc ks ZZ AF EX M pc ls st0 σ := by
  refine VE_callS as hd ml (ME_mono hM (fun r σ' hq => ?_)) hR hn hst hw
  rw [hz r]
  rcases r with x | x | x
  · exact hq.elim
  · exact kk x σ' hq
  · exact hq.elim
end TCALL
theorem vin_lt {i : Int32} {n : Nat} (h : vp_in i n) : i.toNatClampNeg < n := Nat.not_le.mp fun q => h (Or.inr q)
section SHEETS
variable {k : Nat} (hk : k < 4)
theorem k4 {P : Nat → Prop} (hk : k < 4) (h0 : P 0) (h1 : P 1) (h2 : P 2) (h3 : P 3) : P k := by
  match k, hk with
  | 0, _ => exact h0
  | 1, _ => exact h1
  | 2, _ => exact h2
  | 3, _ => exact h3
  | n + 4, h => omega
theorem sh_f0 (hk : k < 4) : ofld (2 + k) 3 0 = some (some (6 + k)) := k4 (P := fun k => ofld (2 + k) 3 0 = some (some (6 + k))) hk rfl rfl rfl rfl
theorem sh_f1 (hk : k < 4) : ofld (2 + k) 3 1 = some none := k4 (P := fun k => ofld (2 + k) 3 1 = some none) hk rfl rfl rfl rfl
theorem sh_f2 (hk : k < 4) : ofld (2 + k) 3 2 = some none := k4 (P := fun k => ofld (2 + k) 3 2 = some none) hk rfl rfl rfl rfl
theorem sh_A (hk : k < 4) : isA (6 + k) = true := k4 (P := fun k => isA (6 + k) = true) hk rfl rfl rfl rfl
theorem sh_len (hk : k < 4) : alen (6 + k) = 60 := k4 (P := fun k => alen (6 + k) = 60) hk rfl rfl rfl rfl
theorem sh_in (hk : k < 4) {i : Int32} (h : vp_in i 60) : vp_in i (alen (6 + k)) := by rw [sh_len hk]; exact h
theorem sh_ocl (hk : k < 4) : ocl (2 + k) = some RX3 := k4 (P := fun k => ocl (2 + k) = some RX3) hk rfl rfl rfl rfl
end SHEETS
theorem i32_ne {x v : Int32} (h : ¬ x = v) : ¬ x.toInt = v.toInt := fun q => h (Int32.toInt_inj.mp q)
theorem VE_copy {g : GG} {R : Room} {kc ks : Nat} {ZZ : List Frame → Array Value → State → State → Prop} {AF : State → Nat → Prop} {EX : State → Prop} {M : MD} {pc : Nat} {ls : List (Nat × MV)} {st : List MV} {σ : St} {idx j0 j1 i1 i2 i3 i4 : Nat} {sp dp n : Int32} (hd : decode M.2.1 pc = .ok (.invokestatic idx, 3)) (w1 : Wd i1 (.methodLink M.1.cls idx arraycopyName)) (w2 : Wd i2 (.native arraycopyName)) (w3 : Wd i3 (.static arraycopyName)) (w4 : Wd i4 (.initialized "java/lang/System"))
    (h1 : ¬ sp < 0) (h2 : ¬ dp < 0) (h3 : ¬ n < 0) (h4 : sp.toNatClampNeg + n.toNatClampNeg ≤ alen j0) (h5 : dp.toNatClampNeg + n.toNatClampNeg ≤ alen j1) (ha0 : isA j0 = true) (ha1 : isA j1 = true) (hR : 1 ≤ R.frames ∧ 40 ≤ R.locals) (hw : Nat.ble (wdL st) 8 = true)
    (kk : VE g R kc ks ZZ AF EX M (pc + 3) ls st (fun a => if a = j1 then va_cpy (σ j0) (σ j1) sp.toNatClampNeg dp.toNatClampNeg n.toNatClampNeg else σ a)) : VE g R kc ks ZZ AF EX M pc ls (vI n :: vI dp :: vR j1 :: vI sp :: vR j0 :: st) σ := by
  intro p e s m args below meth c H locs lA C hP hS hl
  obtain ⟨-, hj0, hc0⟩ := isA_sh ha0
  obtain ⟨-, hj1, hc1⟩ := isA_sh ha1
  have hts := C.2.2.2.2.2.1
  have hK := C.2.2.2.2.2.2.2.1
  have hAp := C.2.2.2.2.2.2.2.2.1
  have hset : (WS g σ).set j1 (g.2.2.1 j1, .inl (g.2.2.2.1, alen j1, .inl (va_cpy (σ j0) (σ j1) sp.toNatClampNeg dp.toNatClampNeg n.toNatClampNeg))) = WS g (fun a => if a = j1 then va_cpy (σ j0) (σ j1) sp.toNatClampNeg dp.toNatClampNeg n.toNatClampNeg else σ a) := WS_set g σ _ hj1 _ (by rw [hc1, if_pos rfl]) (fun i hi => if_neg hi)
  refine va_copyi (D := g.2.1) (tys := tysG g) (ty := .int) C.1 C.2.1 (C.2.2.2.1.trans hl.1.symm) C.2.2.2.2.1 (hts _ w1.U) (hts _ w2.U) (hts _ w3.U) (hts _ w4.U) hK hP (WS_D hAp.1 hAp.2 σ) hS j0 j1 0 0 (f := σ j0) (g := σ j1) (by rw [WS_at g σ hj0, hc0]) (by rw [WS_at g σ hj1, hc1]) rfl rfl rfl h1 h2 h3 h4 h5 (fun _ _ => rfl) hR.1 ?_ hd (fun H1 locs1 hP1 _ hS1 => kk p e s m args below meth c H1 locs1 lA C (by rw [hset] at hP1; exact hP1) hS1 hl)
  have hw2 := Nat.le_of_ble_eq_true hw
  rw [wdL_cat]
  have : nativeFrameWords "java/lang/System" "arraycopy" 5 + 11 ≤ 32 := by decide +kernel
  have := hR.2
  omega
end
