section
-- ===== PART A: goes FIRST, ahead of the names: the tables' words, and 'selects' of the private methods out of them =====
/-- a private method of a class that the tables say can be made, by its rows of tables_1 -/
def lw_okq (q : MethodName × Nat) : Prop := (q.1.cls ≠ "java/lang/invoke/MethodHandle" ∧ q.1.cls ≠ "java/lang/invoke/VarHandle") ∧ Cond.instantiable q.1.cls q.2 ∈ tables_1 ∧ Cond.privateMethod q.1 ∈ tables_1 ∧ Cond.instanceMethod q.1 ∈ tables_1
theorem lw_p0 : lw_okq (⟨"FaceGlass", "troubleOfCells", "(IIII)I"⟩, 8) := ⟨⟨by decide +kernel, by decide +kernel⟩, List.mem_of_getElem? (i := 10) (by decide +kernel), List.mem_of_getElem? (i := 143) (by decide +kernel), List.mem_of_getElem? (i := 144) (by decide +kernel)⟩
theorem lw_p1 : lw_okq (⟨"FaceGlass", "noted", "(I)I"⟩, 8) := ⟨⟨by decide +kernel, by decide +kernel⟩, List.mem_of_getElem? (i := 10) (by decide +kernel), List.mem_of_getElem? (i := 165) (by decide +kernel), List.mem_of_getElem? (i := 166) (by decide +kernel)⟩
theorem lw_p2 : lw_okq (⟨"FaceGlass", "troubleOfVisits", "(IIIIZ)I"⟩, 8) := ⟨⟨by decide +kernel, by decide +kernel⟩, List.mem_of_getElem? (i := 10) (by decide +kernel), List.mem_of_getElem? (i := 211) (by decide +kernel), List.mem_of_getElem? (i := 212) (by decide +kernel)⟩
theorem lw_p3 : lw_okq (⟨"FaceGlass", "takeRow", "(LFaceGlass$Sheet;II)Z"⟩, 8) := ⟨⟨by decide +kernel, by decide +kernel⟩, List.mem_of_getElem? (i := 10) (by decide +kernel), List.mem_of_getElem? (i := 215) (by decide +kernel), List.mem_of_getElem? (i := 216) (by decide +kernel)⟩
theorem lw_p4 : lw_okq (⟨"FaceGlass", "firstWrong", "()I"⟩, 8) := ⟨⟨by decide +kernel, by decide +kernel⟩, List.mem_of_getElem? (i := 10) (by decide +kernel), List.mem_of_getElem? (i := 219) (by decide +kernel), List.mem_of_getElem? (i := 220) (by decide +kernel)⟩
theorem lw_p5 : lw_okq (⟨"FaceGlass$Hall", "changePlaces", "(I)V"⟩, 5) := ⟨⟨by decide +kernel, by decide +kernel⟩, List.mem_of_getElem? (i := 66) (by decide +kernel), List.mem_of_getElem? (i := 232) (by decide +kernel), List.mem_of_getElem? (i := 233) (by decide +kernel)⟩
theorem lw_p6 : lw_okq (⟨"FaceGlass", "answerOfHall", "(I)I"⟩, 8) := ⟨⟨by decide +kernel, by decide +kernel⟩, List.mem_of_getElem? (i := 10) (by decide +kernel), List.mem_of_getElem? (i := 236) (by decide +kernel), List.mem_of_getElem? (i := 237) (by decide +kernel)⟩
theorem lw_p7 : lw_okq (⟨"FaceGlass$Hall", "firstAstray", "()I"⟩, 5) := ⟨⟨by decide +kernel, by decide +kernel⟩, List.mem_of_getElem? (i := 66) (by decide +kernel), List.mem_of_getElem? (i := 248) (by decide +kernel), List.mem_of_getElem? (i := 249) (by decide +kernel)⟩
theorem lw_p8 : lw_okq (⟨"FaceGlass", "answerOfHead", "(II)I"⟩, 8) := ⟨⟨by decide +kernel, by decide +kernel⟩, List.mem_of_getElem? (i := 10) (by decide +kernel), List.mem_of_getElem? (i := 256) (by decide +kernel), List.mem_of_getElem? (i := 257) (by decide +kernel)⟩
theorem lw_p9 : lw_okq (⟨"FaceGlass", "bitIfAllSo", "(I)I"⟩, 8) := ⟨⟨by decide +kernel, by decide +kernel⟩, List.mem_of_getElem? (i := 10) (by decide +kernel), List.mem_of_getElem? (i := 284) (by decide +kernel), List.mem_of_getElem? (i := 285) (by decide +kernel)⟩
theorem lw_p10 : lw_okq (⟨"FaceGlass", "allSo", "()Z"⟩, 8) := ⟨⟨by decide +kernel, by decide +kernel⟩, List.mem_of_getElem? (i := 10) (by decide +kernel), List.mem_of_getElem? (i := 288) (by decide +kernel), List.mem_of_getElem? (i := 289) (by decide +kernel)⟩
theorem lw_p11 : lw_okq (⟨"FaceGlass", "troubleOfOne", "(IIIII)I"⟩, 8) := ⟨⟨by decide +kernel, by decide +kernel⟩, List.mem_of_getElem? (i := 10) (by decide +kernel), List.mem_of_getElem? (i := 304) (by decide +kernel), List.mem_of_getElem? (i := 305) (by decide +kernel)⟩
theorem lw_p12 : lw_okq (⟨"FaceGlass", "troubleOfNew", "(III)I"⟩, 8) := ⟨⟨by decide +kernel, by decide +kernel⟩, List.mem_of_getElem? (i := 10) (by decide +kernel), List.mem_of_getElem? (i := 334) (by decide +kernel), List.mem_of_getElem? (i := 335) (by decide +kernel)⟩
theorem lw_p13 : lw_okq (⟨"FaceGlass", "troubleOfPut", "(II)I"⟩, 8) := ⟨⟨by decide +kernel, by decide +kernel⟩, List.mem_of_getElem? (i := 10) (by decide +kernel), List.mem_of_getElem? (i := 351) (by decide +kernel), List.mem_of_getElem? (i := 352) (by decide +kernel)⟩
theorem lw_p14 : lw_okq (⟨"FaceGlass", "troubleOfCopy", "(IIIII)I"⟩, 8) := ⟨⟨by decide +kernel, by decide +kernel⟩, List.mem_of_getElem? (i := 10) (by decide +kernel), List.mem_of_getElem? (i := 367) (by decide +kernel), List.mem_of_getElem? (i := 368) (by decide +kernel)⟩
theorem lw_p15 : lw_okq (⟨"FaceGlass", "spysTelling", "(I)I"⟩, 8) := ⟨⟨by decide +kernel, by decide +kernel⟩, List.mem_of_getElem? (i := 10) (by decide +kernel), List.mem_of_getElem? (i := 378) (by decide +kernel), List.mem_of_getElem? (i := 379) (by decide +kernel)⟩
def lw_privs_1 : List (MethodName × Nat) := [(⟨"FaceGlass", "troubleOfCells", "(IIII)I"⟩, 8), (⟨"FaceGlass", "noted", "(I)I"⟩, 8), (⟨"FaceGlass", "troubleOfVisits", "(IIIIZ)I"⟩, 8), (⟨"FaceGlass", "takeRow", "(LFaceGlass$Sheet;II)Z"⟩, 8), (⟨"FaceGlass", "firstWrong", "()I"⟩, 8), (⟨"FaceGlass$Hall", "changePlaces", "(I)V"⟩, 5), (⟨"FaceGlass", "answerOfHall", "(I)I"⟩, 8), (⟨"FaceGlass$Hall", "firstAstray", "()I"⟩, 5), (⟨"FaceGlass", "answerOfHead", "(II)I"⟩, 8), (⟨"FaceGlass", "bitIfAllSo", "(I)I"⟩, 8), (⟨"FaceGlass", "allSo", "()Z"⟩, 8), (⟨"FaceGlass", "troubleOfOne", "(IIIII)I"⟩, 8), (⟨"FaceGlass", "troubleOfNew", "(III)I"⟩, 8), (⟨"FaceGlass", "troubleOfPut", "(II)I"⟩, 8), (⟨"FaceGlass", "troubleOfCopy", "(IIIII)I"⟩, 8), (⟨"FaceGlass", "spysTelling", "(I)I"⟩, 8)]
theorem lw_r1 : ∀ q ∈ lw_privs_1, lw_okq q := List.forall_mem_cons.mpr ⟨lw_p0, List.forall_mem_cons.mpr ⟨lw_p1, List.forall_mem_cons.mpr ⟨lw_p2, List.forall_mem_cons.mpr ⟨lw_p3, List.forall_mem_cons.mpr ⟨lw_p4, List.forall_mem_cons.mpr ⟨lw_p5, List.forall_mem_cons.mpr ⟨lw_p6, List.forall_mem_cons.mpr ⟨lw_p7, List.forall_mem_cons.mpr ⟨lw_p8, List.forall_mem_cons.mpr ⟨lw_p9, List.forall_mem_cons.mpr ⟨lw_p10, List.forall_mem_cons.mpr ⟨lw_p11, List.forall_mem_cons.mpr ⟨lw_p12, List.forall_mem_cons.mpr ⟨lw_p13, List.forall_mem_cons.mpr ⟨lw_p14, List.forall_mem_cons.mpr ⟨lw_p15, fun _ h => absurd h List.not_mem_nil⟩⟩⟩⟩⟩⟩⟩⟩⟩⟩⟩⟩⟩⟩⟩⟩
theorem lw_p16 : lw_okq (⟨"FaceGlass", "leaveTrace", "(I)V"⟩, 8) := ⟨⟨by decide +kernel, by decide +kernel⟩, List.mem_of_getElem? (i := 10) (by decide +kernel), List.mem_of_getElem? (i := 382) (by decide +kernel), List.mem_of_getElem? (i := 383) (by decide +kernel)⟩
theorem lw_p17 : lw_okq (⟨"FaceGlass", "lordsTelling", "(I)I"⟩, 8) := ⟨⟨by decide +kernel, by decide +kernel⟩, List.mem_of_getElem? (i := 10) (by decide +kernel), List.mem_of_getElem? (i := 386) (by decide +kernel), List.mem_of_getElem? (i := 387) (by decide +kernel)⟩
theorem lw_p18 : lw_okq (⟨"FaceGlass", "headsTelling", "(I)I"⟩, 8) := ⟨⟨by decide +kernel, by decide +kernel⟩, List.mem_of_getElem? (i := 10) (by decide +kernel), List.mem_of_getElem? (i := 390) (by decide +kernel), List.mem_of_getElem? (i := 391) (by decide +kernel)⟩
theorem lw_p19 : lw_okq (⟨"FaceGlass", "answerOfKind", "(II)I"⟩, 8) := ⟨⟨by decide +kernel, by decide +kernel⟩, List.mem_of_getElem? (i := 10) (by decide +kernel), List.mem_of_getElem? (i := 402) (by decide +kernel), List.mem_of_getElem? (i := 403) (by decide +kernel)⟩
theorem lw_p20 : lw_okq (⟨"FaceGlassModel", "against", "(IIII)I"⟩, 22) := ⟨⟨by decide +kernel, by decide +kernel⟩, List.mem_of_getElem? (i := 418) (by decide +kernel), List.mem_of_getElem? (i := 504) (by decide +kernel), List.mem_of_getElem? (i := 505) (by decide +kernel)⟩
theorem lw_p21 : lw_okq (⟨"FaceGlassModel", "fails", "(I)I"⟩, 22) := ⟨⟨by decide +kernel, by decide +kernel⟩, List.mem_of_getElem? (i := 418) (by decide +kernel), List.mem_of_getElem? (i := 508) (by decide +kernel), List.mem_of_getElem? (i := 509) (by decide +kernel)⟩
theorem lw_p22 : lw_okq (⟨"FaceGlassModel", "readCourt", "(I)Z"⟩, 22) := ⟨⟨by decide +kernel, by decide +kernel⟩, List.mem_of_getElem? (i := 418) (by decide +kernel), List.mem_of_getElem? (i := 512) (by decide +kernel), List.mem_of_getElem? (i := 513) (by decide +kernel)⟩
theorem lw_p23 : lw_okq (⟨"FaceGlassModel", "isSign", "(II)Z"⟩, 22) := ⟨⟨by decide +kernel, by decide +kernel⟩, List.mem_of_getElem? (i := 418) (by decide +kernel), List.mem_of_getElem? (i := 516) (by decide +kernel), List.mem_of_getElem? (i := 517) (by decide +kernel)⟩
theorem lw_p24 : lw_okq (⟨"FaceGlassModel", "readHead", "(I)Z"⟩, 22) := ⟨⟨by decide +kernel, by decide +kernel⟩, List.mem_of_getElem? (i := 418) (by decide +kernel), List.mem_of_getElem? (i := 520) (by decide +kernel), List.mem_of_getElem? (i := 521) (by decide +kernel)⟩
theorem lw_p25 : lw_okq (⟨"FaceGlassModel", "digit", "(III)I"⟩, 22) := ⟨⟨by decide +kernel, by decide +kernel⟩, List.mem_of_getElem? (i := 418) (by decide +kernel), List.mem_of_getElem? (i := 524) (by decide +kernel), List.mem_of_getElem? (i := 525) (by decide +kernel)⟩
theorem lw_p26 : lw_okq (⟨"FaceGlassModel", "isHead", "(I)Z"⟩, 22) := ⟨⟨by decide +kernel, by decide +kernel⟩, List.mem_of_getElem? (i := 418) (by decide +kernel), List.mem_of_getElem? (i := 532) (by decide +kernel), List.mem_of_getElem? (i := 533) (by decide +kernel)⟩
theorem lw_p27 : lw_okq (⟨"FaceGlassModel", "lasts", "(I)I"⟩, 22) := ⟨⟨by decide +kernel, by decide +kernel⟩, List.mem_of_getElem? (i := 418) (by decide +kernel), List.mem_of_getElem? (i := 536) (by decide +kernel), List.mem_of_getElem? (i := 537) (by decide +kernel)⟩
theorem lw_p28 : lw_okq (⟨"FaceGlassModel", "layVisits", "(IIII)I"⟩, 22) := ⟨⟨by decide +kernel, by decide +kernel⟩, List.mem_of_getElem? (i := 418) (by decide +kernel), List.mem_of_getElem? (i := 558) (by decide +kernel), List.mem_of_getElem? (i := 559) (by decide +kernel)⟩
theorem lw_p29 : lw_okq (⟨"FaceGlassModel", "go", "()I"⟩, 22) := ⟨⟨by decide +kernel, by decide +kernel⟩, List.mem_of_getElem? (i := 418) (by decide +kernel), List.mem_of_getElem? (i := 562) (by decide +kernel), List.mem_of_getElem? (i := 563) (by decide +kernel)⟩
theorem lw_p30 : lw_okq (⟨"FaceGlassModel", "begin", "()V"⟩, 22) := ⟨⟨by decide +kernel, by decide +kernel⟩, List.mem_of_getElem? (i := 418) (by decide +kernel), List.mem_of_getElem? (i := 566) (by decide +kernel), List.mem_of_getElem? (i := 567) (by decide +kernel)⟩
theorem lw_p31 : lw_okq (⟨"FaceGlassModel", "visit", "(I)Z"⟩, 22) := ⟨⟨by decide +kernel, by decide +kernel⟩, List.mem_of_getElem? (i := 418) (by decide +kernel), List.mem_of_getElem? (i := 570) (by decide +kernel), List.mem_of_getElem? (i := 571) (by decide +kernel)⟩
def lw_privs_2 : List (MethodName × Nat) := [(⟨"FaceGlass", "leaveTrace", "(I)V"⟩, 8), (⟨"FaceGlass", "lordsTelling", "(I)I"⟩, 8), (⟨"FaceGlass", "headsTelling", "(I)I"⟩, 8), (⟨"FaceGlass", "answerOfKind", "(II)I"⟩, 8), (⟨"FaceGlassModel", "against", "(IIII)I"⟩, 22), (⟨"FaceGlassModel", "fails", "(I)I"⟩, 22), (⟨"FaceGlassModel", "readCourt", "(I)Z"⟩, 22), (⟨"FaceGlassModel", "isSign", "(II)Z"⟩, 22), (⟨"FaceGlassModel", "readHead", "(I)Z"⟩, 22), (⟨"FaceGlassModel", "digit", "(III)I"⟩, 22), (⟨"FaceGlassModel", "isHead", "(I)Z"⟩, 22), (⟨"FaceGlassModel", "lasts", "(I)I"⟩, 22), (⟨"FaceGlassModel", "layVisits", "(IIII)I"⟩, 22), (⟨"FaceGlassModel", "go", "()I"⟩, 22), (⟨"FaceGlassModel", "begin", "()V"⟩, 22), (⟨"FaceGlassModel", "visit", "(I)Z"⟩, 22)]
theorem lw_r2 : ∀ q ∈ lw_privs_2, lw_okq q := List.forall_mem_cons.mpr ⟨lw_p16, List.forall_mem_cons.mpr ⟨lw_p17, List.forall_mem_cons.mpr ⟨lw_p18, List.forall_mem_cons.mpr ⟨lw_p19, List.forall_mem_cons.mpr ⟨lw_p20, List.forall_mem_cons.mpr ⟨lw_p21, List.forall_mem_cons.mpr ⟨lw_p22, List.forall_mem_cons.mpr ⟨lw_p23, List.forall_mem_cons.mpr ⟨lw_p24, List.forall_mem_cons.mpr ⟨lw_p25, List.forall_mem_cons.mpr ⟨lw_p26, List.forall_mem_cons.mpr ⟨lw_p27, List.forall_mem_cons.mpr ⟨lw_p28, List.forall_mem_cons.mpr ⟨lw_p29, List.forall_mem_cons.mpr ⟨lw_p30, List.forall_mem_cons.mpr ⟨lw_p31, fun _ h => absurd h List.not_mem_nil⟩⟩⟩⟩⟩⟩⟩⟩⟩⟩⟩⟩⟩⟩⟩⟩
theorem lw_p32 : lw_okq (⟨"FaceGlassModel", "change", "(I)V"⟩, 22) := ⟨⟨by decide +kernel, by decide +kernel⟩, List.mem_of_getElem? (i := 418) (by decide +kernel), List.mem_of_getElem? (i := 574) (by decide +kernel), List.mem_of_getElem? (i := 575) (by decide +kernel)⟩
theorem lw_p33 : lw_okq (⟨"FaceGlassModel", "tellVisits", "(I)I"⟩, 22) := ⟨⟨by decide +kernel, by decide +kernel⟩, List.mem_of_getElem? (i := 418) (by decide +kernel), List.mem_of_getElem? (i := 578) (by decide +kernel), List.mem_of_getElem? (i := 579) (by decide +kernel)⟩
theorem lw_p34 : lw_okq (⟨"FaceGlassModel", "atHome", "()I"⟩, 22) := ⟨⟨by decide +kernel, by decide +kernel⟩, List.mem_of_getElem? (i := 418) (by decide +kernel), List.mem_of_getElem? (i := 582) (by decide +kernel), List.mem_of_getElem? (i := 583) (by decide +kernel)⟩
theorem lw_p35 : lw_okq (⟨"FaceGlassModel", "home", "()I"⟩, 22) := ⟨⟨by decide +kernel, by decide +kernel⟩, List.mem_of_getElem? (i := 418) (by decide +kernel), List.mem_of_getElem? (i := 586) (by decide +kernel), List.mem_of_getElem? (i := 587) (by decide +kernel)⟩
theorem lw_p36 : lw_okq (⟨"FaceGlassModel", "firstAway", "()I"⟩, 22) := ⟨⟨by decide +kernel, by decide +kernel⟩, List.mem_of_getElem? (i := 418) (by decide +kernel), List.mem_of_getElem? (i := 590) (by decide +kernel), List.mem_of_getElem? (i := 591) (by decide +kernel)⟩
theorem lw_p37 : lw_okq (⟨"FaceGlassModel", "worn", "()I"⟩, 22) := ⟨⟨by decide +kernel, by decide +kernel⟩, List.mem_of_getElem? (i := 418) (by decide +kernel), List.mem_of_getElem? (i := 594) (by decide +kernel), List.mem_of_getElem? (i := 595) (by decide +kernel)⟩
theorem lw_p38 : lw_okq (⟨"FaceGlassModel", "fooled", "(I)I"⟩, 22) := ⟨⟨by decide +kernel, by decide +kernel⟩, List.mem_of_getElem? (i := 418) (by decide +kernel), List.mem_of_getElem? (i := 598) (by decide +kernel), List.mem_of_getElem? (i := 599) (by decide +kernel)⟩
theorem lw_p39 : lw_okq (⟨"FaceGlassModel", "findPlan", "(II)V"⟩, 22) := ⟨⟨by decide +kernel, by decide +kernel⟩, List.mem_of_getElem? (i := 418) (by decide +kernel), List.mem_of_getElem? (i := 606) (by decide +kernel), List.mem_of_getElem? (i := 607) (by decide +kernel)⟩
theorem lw_p40 : lw_okq (⟨"FaceGlassModel", "layRow", "(II)V"⟩, 22) := ⟨⟨by decide +kernel, by decide +kernel⟩, List.mem_of_getElem? (i := 418) (by decide +kernel), List.mem_of_getElem? (i := 610) (by decide +kernel), List.mem_of_getElem? (i := 611) (by decide +kernel)⟩
theorem lw_p41 : lw_okq (⟨"FaceGlassModel", "areSo", "()Z"⟩, 22) := ⟨⟨by decide +kernel, by decide +kernel⟩, List.mem_of_getElem? (i := 418) (by decide +kernel), List.mem_of_getElem? (i := 626) (by decide +kernel), List.mem_of_getElem? (i := 627) (by decide +kernel)⟩
theorem lw_p42 : lw_okq (⟨"FaceGlassModel", "areSoBehind", "(I)Z"⟩, 22) := ⟨⟨by decide +kernel, by decide +kernel⟩, List.mem_of_getElem? (i := 418) (by decide +kernel), List.mem_of_getElem? (i := 630) (by decide +kernel), List.mem_of_getElem? (i := 631) (by decide +kernel)⟩
theorem lw_p43 : lw_okq (⟨"FaceGlassModel", "lay", "(IIIII)I"⟩, 22) := ⟨⟨by decide +kernel, by decide +kernel⟩, List.mem_of_getElem? (i := 418) (by decide +kernel), List.mem_of_getElem? (i := 638) (by decide +kernel), List.mem_of_getElem? (i := 639) (by decide +kernel)⟩
theorem lw_p44 : lw_okq (⟨"FaceGlassModel", "lost", "(I)J"⟩, 22) := ⟨⟨by decide +kernel, by decide +kernel⟩, List.mem_of_getElem? (i := 418) (by decide +kernel), List.mem_of_getElem? (i := 670) (by decide +kernel), List.mem_of_getElem? (i := 671) (by decide +kernel)⟩
theorem lw_p45 : lw_okq (⟨"FaceGlassModel", "begins", "(I)V"⟩, 22) := ⟨⟨by decide +kernel, by decide +kernel⟩, List.mem_of_getElem? (i := 418) (by decide +kernel), List.mem_of_getElem? (i := 682) (by decide +kernel), List.mem_of_getElem? (i := 683) (by decide +kernel)⟩
def lw_privs_3 : List (MethodName × Nat) := [(⟨"FaceGlassModel", "change", "(I)V"⟩, 22), (⟨"FaceGlassModel", "tellVisits", "(I)I"⟩, 22), (⟨"FaceGlassModel", "atHome", "()I"⟩, 22), (⟨"FaceGlassModel", "home", "()I"⟩, 22), (⟨"FaceGlassModel", "firstAway", "()I"⟩, 22), (⟨"FaceGlassModel", "worn", "()I"⟩, 22), (⟨"FaceGlassModel", "fooled", "(I)I"⟩, 22), (⟨"FaceGlassModel", "findPlan", "(II)V"⟩, 22), (⟨"FaceGlassModel", "layRow", "(II)V"⟩, 22), (⟨"FaceGlassModel", "areSo", "()Z"⟩, 22), (⟨"FaceGlassModel", "areSoBehind", "(I)Z"⟩, 22), (⟨"FaceGlassModel", "lay", "(IIIII)I"⟩, 22), (⟨"FaceGlassModel", "lost", "(I)J"⟩, 22), (⟨"FaceGlassModel", "begins", "(I)V"⟩, 22)]
theorem lw_r3 : ∀ q ∈ lw_privs_3, lw_okq q := List.forall_mem_cons.mpr ⟨lw_p32, List.forall_mem_cons.mpr ⟨lw_p33, List.forall_mem_cons.mpr ⟨lw_p34, List.forall_mem_cons.mpr ⟨lw_p35, List.forall_mem_cons.mpr ⟨lw_p36, List.forall_mem_cons.mpr ⟨lw_p37, List.forall_mem_cons.mpr ⟨lw_p38, List.forall_mem_cons.mpr ⟨lw_p39, List.forall_mem_cons.mpr ⟨lw_p40, List.forall_mem_cons.mpr ⟨lw_p41, List.forall_mem_cons.mpr ⟨lw_p42, List.forall_mem_cons.mpr ⟨lw_p43, List.forall_mem_cons.mpr ⟨lw_p44, List.forall_mem_cons.mpr ⟨lw_p45, fun _ h => absurd h List.not_mem_nil⟩⟩⟩⟩⟩⟩⟩⟩⟩⟩⟩⟩⟩⟩
def lw_privs : List (MethodName × Nat) := lw_privs_1 ++ (lw_privs_2 ++ (lw_privs_3))
def lw_tbl : List Cond := k2_sels lw_privs ++ tables_1
theorem lw_privs_ok : ∀ q ∈ lw_privs, lw_okq q := by
  show ∀ q ∈ lw_privs_1 ++ (lw_privs_2 ++ (lw_privs_3)), lw_okq q
  exact List.forall_mem_append.mpr ⟨lw_r1, List.forall_mem_append.mpr ⟨lw_r2, lw_r3⟩⟩
end
section
def RX0 : String := "FaceGlass$Court"
def TX0 : u_T := fun k => match k with
  | 0 => ("FaceGlass$Court", "kind", "[I", true)
  | 1 => ("FaceGlass$Court", "wear", "[I", true)
  | 2 => ("FaceGlass$Court", "known", "[I", true)
  | _ => ("FaceGlass$Court", "count", "I", false)
def tyX0 : Nat → FieldType := fun k => match k with
  | 0 => .array .int
  | 1 => .array .int
  | 2 => .array .int
  | _ => .int
abbrev wsX00 : List Cond := u_ws RX0 TX0 4
theorem nmX0 : ∀ a, a < 4 → ∀ b, b < 4 → a ≠ b → (TX0 a).2.1 ≠ (TX0 b).2.1 := by decide +kernel
theorem tyX0_ok : ∀ k, k < 4 → parseFieldDescriptor (TX0 k).2.2.1 = some (tyX0 k) := by decide +kernel
abbrev cX0_init : ByteArray := prog_2_method_1_code
def yX0_init : MethodName := ⟨RX0, "<init>", "()V"⟩
abbrev cX0_has : ByteArray := prog_2_method_2_code
def yX0_has : MethodName := ⟨RX0, "has", "(I)Z"⟩
abbrev cX0_gather : ByteArray := prog_2_method_3_code
def yX0_gather : MethodName := ⟨RX0, "gather", "(LFaceGlass$Sheet;II)V"⟩
def RX1 : String := "FaceGlass$Hall"
def TX1 : u_T := fun k => match k with
  | 0 => ("FaceGlass$Hall", "worn", "[I", true)
  | 1 => ("FaceGlass$Hall", "taken", "[I", true)
  | 2 => ("FaceGlass$Hall", "lasts", "[I", true)
  | 3 => ("FaceGlass$Hall", "heads", "I", false)
  | _ => ("FaceGlass$Hall", "glass", "I", false)
def tyX1 : Nat → FieldType := fun k => match k with
  | 0 => .array .int
  | 1 => .array .int
  | 2 => .array .int
  | 3 => .int
  | _ => .int
abbrev wsX10 : List Cond := u_ws RX1 TX1 5
theorem nmX1 : ∀ a, a < 5 → ∀ b, b < 5 → a ≠ b → (TX1 a).2.1 ≠ (TX1 b).2.1 := by decide +kernel
theorem tyX1_ok : ∀ k, k < 5 → parseFieldDescriptor (TX1 k).2.2.1 = some (tyX1 k) := by decide +kernel
abbrev cX1_init : ByteArray := prog_3_method_1_code
def yX1_init : MethodName := ⟨RX1, "<init>", "()V"⟩
abbrev cX1_open : ByteArray := prog_3_method_2_code
def yX1_open : MethodName := ⟨RX1, "open", "(LFaceGlass$Court;)V"⟩
abbrev cX1_receives : ByteArray := prog_3_method_3_code
def yX1_receives : MethodName := ⟨RX1, "receives", "(I)Z"⟩
abbrev cX1_takesBack : ByteArray := prog_3_method_4_code
def yX1_takesBack : MethodName := ⟨RX1, "takesBack", "(I)V"⟩
abbrev cX1_changePlaces : ByteArray := prog_3_method_5_code
def yX1_changePlaces : MethodName := ⟨RX1, "changePlaces", "(I)V"⟩
abbrev cX1_ownWearers : ByteArray := prog_3_method_6_code
def yX1_ownWearers : MethodName := ⟨RX1, "ownWearers", "()I"⟩
abbrev cX1_visitsHome : ByteArray := prog_3_method_7_code
def yX1_visitsHome : MethodName := ⟨RX1, "visitsHome", "()I"⟩
abbrev cX1_firstAstray : ByteArray := prog_3_method_8_code
def yX1_firstAstray : MethodName := ⟨RX1, "firstAstray", "()I"⟩
abbrev cX1_mostTaken : ByteArray := prog_3_method_9_code
def yX1_mostTaken : MethodName := ⟨RX1, "mostTaken", "()I"⟩
abbrev cX1_fooling : ByteArray := prog_3_method_10_code
def yX1_fooling : MethodName := ⟨RX1, "fooling", "(II)I"⟩
def RX2 : String := "FaceGlass$Readings"
def TX2 : u_T := fun k => match k with
  | 0 => ("FaceGlass$Readings", "time", "[I", true)
  | 1 => ("FaceGlass$Readings", "head", "[I", true)
  | 2 => ("FaceGlass$Readings", "face", "[I", true)
  | _ => ("FaceGlass$Readings", "count", "I", false)
def tyX2 : Nat → FieldType := fun k => match k with
  | 0 => .array .int
  | 1 => .array .int
  | 2 => .array .int
  | _ => .int
abbrev wsX20 : List Cond := u_ws RX2 TX2 4
theorem nmX2 : ∀ a, a < 4 → ∀ b, b < 4 → a ≠ b → (TX2 a).2.1 ≠ (TX2 b).2.1 := by decide +kernel
theorem tyX2_ok : ∀ k, k < 4 → parseFieldDescriptor (TX2 k).2.2.1 = some (tyX2 k) := by decide +kernel
abbrev cX2_init : ByteArray := prog_4_method_1_code
def yX2_init : MethodName := ⟨RX2, "<init>", "()V"⟩
abbrev cX2_add : ByteArray := prog_4_method_2_code
def yX2_add : MethodName := ⟨RX2, "add", "(III)I"⟩
abbrev cX2_reachBeyond : ByteArray := prog_4_method_3_code
def yX2_reachBeyond : MethodName := ⟨RX2, "reachBeyond", "(I)Z"⟩
abbrev cX2_areSo : ByteArray := prog_4_method_4_code
def yX2_areSo : MethodName := ⟨RX2, "areSo", "(ILFaceGlass$Hall;)Z"⟩
def RX3 : String := "FaceGlass$Sheet"
def TX3 : u_T := fun k => match k with
  | 0 => ("FaceGlass$Sheet", "cells", "[I", true)
  | 1 => ("FaceGlass$Sheet", "lane", "I", false)
  | _ => ("FaceGlass$Sheet", "length", "I", false)
def tyX3 : Nat → FieldType := fun k => match k with
  | 0 => .array .int
  | 1 => .int
  | _ => .int
abbrev wsX30 : List Cond := u_ws RX3 TX3 3
theorem nmX3 : ∀ a, a < 3 → ∀ b, b < 3 → a ≠ b → (TX3 a).2.1 ≠ (TX3 b).2.1 := by decide +kernel
theorem tyX3_ok : ∀ k, k < 3 → parseFieldDescriptor (TX3 k).2.2.1 = some (tyX3 k) := by decide +kernel
abbrev cX3_init : ByteArray := prog_5_method_1_code
def yX3_init : MethodName := ⟨RX3, "<init>", "()V"⟩
abbrev cX3_isNothing : ByteArray := prog_5_method_2_code
def yX3_isNothing : MethodName := ⟨RX3, "isNothing", "()Z"⟩
abbrev cX3_renew : ByteArray := prog_5_method_3_code
def yX3_renew : MethodName := ⟨RX3, "renew", "(II)V"⟩
abbrev cX3_hasCells : ByteArray := prog_5_method_4_code
def yX3_hasCells : MethodName := ⟨RX3, "hasCells", "(II)Z"⟩
abbrev cX3_faultOfCells : ByteArray := prog_5_method_5_code
def yX3_faultOfCells : MethodName := ⟨RX3, "faultOfCells", "(III)I"⟩
def RX4 : String := "FaceGlass"
def TX4 : u_T := fun k => match k with
  | 0 => ("FaceGlass", "sheets", "[LFaceGlass$Sheet;", true)
  | 1 => ("FaceGlass", "heads", "LFaceGlass$Court;", true)
  | 2 => ("FaceGlass", "hall", "LFaceGlass$Hall;", true)
  | 3 => ("FaceGlass", "readings", "LFaceGlass$Readings;", true)
  | 4 => ("FaceGlass", "row", "[I", true)
  | 5 => ("FaceGlass", "told", "I", false)
  | 6 => ("FaceGlass", "traced", "I", false)
  | _ => ("FaceGlass", "latestFault", "I", false)
def tyX4 : Nat → FieldType := fun k => match k with
  | 0 => .array (.object "FaceGlass$Sheet")
  | 1 => .object "FaceGlass$Court"
  | 2 => .object "FaceGlass$Hall"
  | 3 => .object "FaceGlass$Readings"
  | 4 => .array .int
  | 5 => .int
  | 6 => .int
  | _ => .int
abbrev wsX40 : List Cond := u_ws RX4 TX4 8
theorem nmX4 : ∀ a, a < 8 → ∀ b, b < 8 → a ≠ b → (TX4 a).2.1 ≠ (TX4 b).2.1 := by decide +kernel
theorem tyX4_ok : ∀ k, k < 8 → parseFieldDescriptor (TX4 k).2.2.1 = some (tyX4 k) := by decide +kernel
abbrev cX4_init : ByteArray := prog_1_method_1_code
def yX4_init : MethodName := ⟨RX4, "<init>", "()V"⟩
abbrev cX4_court : ByteArray := prog_1_method_2_code
def yX4_court : MethodName := ⟨RX4, "court", "(IIII)I"⟩
abbrev cX4_ofHead : ByteArray := prog_1_method_3_code
def yX4_ofHead : MethodName := ⟨RX4, "ofHead", "(II)I"⟩
abbrev cX4_wear : ByteArray := prog_1_method_4_code
def yX4_wear : MethodName := ⟨RX4, "wear", "(II)I"⟩
abbrev cX4_knows : ByteArray := prog_1_method_5_code
def yX4_knows : MethodName := ⟨RX4, "knows", "(II)I"⟩
abbrev cX4_visits : ByteArray := prog_1_method_6_code
def yX4_visits : MethodName := ⟨RX4, "visits", "(IIIII)I"⟩
abbrev cX4_plan : ByteArray := prog_1_method_7_code
def yX4_plan : MethodName := ⟨RX4, "plan", "(III)I"⟩
abbrev cX4_reading : ByteArray := prog_1_method_8_code
def yX4_reading : MethodName := ⟨RX4, "reading", "(III)I"⟩
abbrev cX4_back : ByteArray := prog_1_method_9_code
def yX4_back : MethodName := ⟨RX4, "back", "(I)I"⟩
abbrev cX4_who : ByteArray := prog_1_method_10_code
def yX4_who : MethodName := ⟨RX4, "who", "(IIIII)I"⟩
abbrev cX4_kinds : ByteArray := prog_1_method_11_code
def yX4_kinds : MethodName := ⟨RX4, "kinds", "(IIIII)I"⟩
abbrev cX4_wears : ByteArray := prog_1_method_12_code
def yX4_wears : MethodName := ⟨RX4, "wears", "(IIIII)I"⟩
abbrev cX4_odds : ByteArray := prog_1_method_13_code
def yX4_odds : MethodName := ⟨RX4, "odds", "(IIII)J"⟩
abbrev cX4_sheet : ByteArray := prog_1_method_14_code
def yX4_sheet : MethodName := ⟨RX4, "sheet", "(III)I"⟩
abbrev cX4_lose : ByteArray := prog_1_method_15_code
def yX4_lose : MethodName := ⟨RX4, "lose", "(I)I"⟩
abbrev cX4_put : ByteArray := prog_1_method_16_code
def yX4_put : MethodName := ⟨RX4, "put", "(III)I"⟩
abbrev cX4_cell : ByteArray := prog_1_method_17_code
def yX4_cell : MethodName := ⟨RX4, "cell", "(III)J"⟩
abbrev cX4_copy : ByteArray := prog_1_method_18_code
def yX4_copy : MethodName := ⟨RX4, "copy", "(IIIII)I"⟩
abbrev cX4_tell : ByteArray := prog_1_method_19_code
def yX4_tell : MethodName := ⟨RX4, "tell", "(I)I"⟩
abbrev cX4_greet : ByteArray := prog_1_method_20_code
def yX4_greet : MethodName := ⟨RX4, "greet", "(I)I"⟩
abbrev cX4_as : ByteArray := prog_1_method_21_code
def yX4_as : MethodName := ⟨RX4, "as", "(II)I"⟩
abbrev cX4_trace : ByteArray := prog_1_method_22_code
def yX4_trace : MethodName := ⟨RX4, "trace", "()I"⟩
abbrev cX4_fault : ByteArray := prog_1_method_23_code
def yX4_fault : MethodName := ⟨RX4, "fault", "()I"⟩
abbrev cX4_many : ByteArray := prog_1_method_24_code
def yX4_many : MethodName := ⟨RX4, "many", "(I)I"⟩
abbrev cX4_noted : ByteArray := prog_1_method_25_code
def yX4_noted : MethodName := ⟨RX4, "noted", "(I)I"⟩
abbrev cX4_troubleOfCells : ByteArray := prog_1_method_26_code
def yX4_troubleOfCells : MethodName := ⟨RX4, "troubleOfCells", "(IIII)I"⟩
abbrev cX4_troubleOfVisits : ByteArray := prog_1_method_27_code
def yX4_troubleOfVisits : MethodName := ⟨RX4, "troubleOfVisits", "(IIIIZ)I"⟩
abbrev cX4_troubleOfOne : ByteArray := prog_1_method_28_code
def yX4_troubleOfOne : MethodName := ⟨RX4, "troubleOfOne", "(IIIII)I"⟩
abbrev cX4_troubleOfNew : ByteArray := prog_1_method_29_code
def yX4_troubleOfNew : MethodName := ⟨RX4, "troubleOfNew", "(III)I"⟩
abbrev cX4_troubleOfPut : ByteArray := prog_1_method_30_code
def yX4_troubleOfPut : MethodName := ⟨RX4, "troubleOfPut", "(II)I"⟩
abbrev cX4_troubleOfCopy : ByteArray := prog_1_method_31_code
def yX4_troubleOfCopy : MethodName := ⟨RX4, "troubleOfCopy", "(IIIII)I"⟩
abbrev cX4_answerOfKind : ByteArray := prog_1_method_32_code
def yX4_answerOfKind : MethodName := ⟨RX4, "answerOfKind", "(II)I"⟩
abbrev cX4_isSheet : ByteArray := prog_1_method_33_code
def yX4_isSheet : MethodName := ⟨RX4, "isSheet", "(I)Z"⟩
abbrev cX4_isLane : ByteArray := prog_1_method_34_code
def yX4_isLane : MethodName := ⟨RX4, "isLane", "(I)Z"⟩
abbrev cX4_isQuestion : ByteArray := prog_1_method_35_code
def yX4_isQuestion : MethodName := ⟨RX4, "isQuestion", "(I)Z"⟩
abbrev cX4_firstFault : ByteArray := prog_1_method_36_code
def yX4_firstFault : MethodName := ⟨RX4, "firstFault", "(LFaceGlass$Sheet;II)I"⟩
abbrev cX4_goesOn : ByteArray := prog_1_method_37_code
def yX4_goesOn : MethodName := ⟨RX4, "goesOn", "(II)Z"⟩
abbrev cX4_kindOfLetter : ByteArray := prog_1_method_38_code
def yX4_kindOfLetter : MethodName := ⟨RX4, "kindOfLetter", "(I)I"⟩
abbrev cX4_lasting : ByteArray := prog_1_method_39_code
def yX4_lasting : MethodName := ⟨RX4, "lasting", "(II)I"⟩
abbrev cX4_takeRow : ByteArray := prog_1_method_40_code
def yX4_takeRow : MethodName := ⟨RX4, "takeRow", "(LFaceGlass$Sheet;II)Z"⟩
abbrev cX4_firstWrong : ByteArray := prog_1_method_41_code
def yX4_firstWrong : MethodName := ⟨RX4, "firstWrong", "()I"⟩
abbrev cX4_answerOfHall : ByteArray := prog_1_method_42_code
def yX4_answerOfHall : MethodName := ⟨RX4, "answerOfHall", "(I)I"⟩
abbrev cX4_answerOfHead : ByteArray := prog_1_method_43_code
def yX4_answerOfHead : MethodName := ⟨RX4, "answerOfHead", "(II)I"⟩
abbrev cX4_bitIfAllSo : ByteArray := prog_1_method_44_code
def yX4_bitIfAllSo : MethodName := ⟨RX4, "bitIfAllSo", "(I)I"⟩
abbrev cX4_allSo : ByteArray := prog_1_method_45_code
def yX4_allSo : MethodName := ⟨RX4, "allSo", "()Z"⟩
abbrev cX4_rowsTo : ByteArray := prog_1_method_46_code
def yX4_rowsTo : MethodName := ⟨RX4, "rowsTo", "(LFaceGlass$Hall;III)I"⟩
abbrev cX4_greatestDivisor : ByteArray := prog_1_method_47_code
def yX4_greatestDivisor : MethodName := ⟨RX4, "greatestDivisor", "(II)I"⟩
abbrev cX4_leaveTrace : ByteArray := prog_1_method_48_code
def yX4_leaveTrace : MethodName := ⟨RX4, "leaveTrace", "(I)V"⟩
abbrev cX4_headsTelling : ByteArray := prog_1_method_49_code
def yX4_headsTelling : MethodName := ⟨RX4, "headsTelling", "(I)I"⟩
abbrev cX4_lordsTelling : ByteArray := prog_1_method_50_code
def yX4_lordsTelling : MethodName := ⟨RX4, "lordsTelling", "(I)I"⟩
abbrev cX4_spysTelling : ByteArray := prog_1_method_51_code
def yX4_spysTelling : MethodName := ⟨RX4, "spysTelling", "(I)I"⟩
abbrev cX4_cut : ByteArray := prog_1_method_52_code
def yX4_cut : MethodName := ⟨RX4, "cut", "(II)I"⟩
def RX5 : String := "FaceGlassModel"
def TX5 : u_T := fun k => match k with
  | 0 => ("FaceGlassModel", "fault", "I", false)
  | 1 => ("FaceGlassModel", "trace", "I", false)
  | 2 => ("FaceGlassModel", "sorts", "[I", true)
  | 3 => ("FaceGlassModel", "sheetLong", "[I", true)
  | 4 => ("FaceGlassModel", "cells", "[I", true)
  | 5 => ("FaceGlassModel", "heads", "I", false)
  | 6 => ("FaceGlassModel", "kind", "[I", true)
  | 7 => ("FaceGlassModel", "wearOf", "[I", true)
  | 8 => ("FaceGlassModel", "knowsOf", "[I", true)
  | 9 => ("FaceGlassModel", "at", "I", false)
  | 10 => ("FaceGlassModel", "readMany", "I", false)
  | 11 => ("FaceGlassModel", "read", "[I", true)
  | 12 => ("FaceGlassModel", "wears", "[I", true)
  | 13 => ("FaceGlassModel", "taken", "[I", true)
  | 14 => ("FaceGlassModel", "glass", "I", false)
  | 15 => ("FaceGlassModel", "told", "I", false)
  | 16 => ("FaceGlassModel", "row", "[I", true)
  | 17 => ("FaceGlassModel", "foundLong", "I", false)
  | 18 => ("FaceGlassModel", "readings", "I", false)
  | 19 => ("FaceGlassModel", "readWhen", "[I", true)
  | 20 => ("FaceGlassModel", "readHeadOf", "[I", true)
  | _ => ("FaceGlassModel", "readFace", "[I", true)
def tyX5 : Nat → FieldType := fun k => match k with
  | 0 => .int
  | 1 => .int
  | 2 => .array .int
  | 3 => .array .int
  | 4 => .array .int
  | 5 => .int
  | 6 => .array .int
  | 7 => .array .int
  | 8 => .array .int
  | 9 => .int
  | 10 => .int
  | 11 => .array .int
  | 12 => .array .int
  | 13 => .array .int
  | 14 => .int
  | 15 => .int
  | 16 => .array .int
  | 17 => .int
  | 18 => .int
  | 19 => .array .int
  | 20 => .array .int
  | _ => .array .int
abbrev wsX50 : List Cond := u_ws RX5 TX5 22
theorem nmX5 : ∀ a, a < 22 → ∀ b, b < 22 → a ≠ b → (TX5 a).2.1 ≠ (TX5 b).2.1 := by decide +kernel
theorem tyX5_ok : ∀ k, k < 22 → parseFieldDescriptor (TX5 k).2.2.1 = some (tyX5 k) := by decide +kernel
abbrev cX5_init : ByteArray := prog_7_method_1_code
def yX5_init : MethodName := ⟨RX5, "<init>", "()V"⟩
abbrev cX5_fails : ByteArray := prog_7_method_3_code
def yX5_fails : MethodName := ⟨RX5, "fails", "(I)I"⟩
abbrev cX5_lost : ByteArray := prog_7_method_4_code
def yX5_lost : MethodName := ⟨RX5, "lost", "(I)J"⟩
abbrev cX5_within : ByteArray := prog_7_method_5_code
def yX5_within : MethodName := ⟨RX5, "within", "(III)Z"⟩
abbrev cX5_isSheet : ByteArray := prog_7_method_6_code
def yX5_isSheet : MethodName := ⟨RX5, "isSheet", "(I)Z"⟩
abbrev cX5_isSort : ByteArray := prog_7_method_7_code
def yX5_isSort : MethodName := ⟨RX5, "isSort", "(I)Z"⟩
abbrev cX5_against : ByteArray := prog_7_method_8_code
def yX5_against : MethodName := ⟨RX5, "against", "(IIII)I"⟩
abbrev cX5_isHead : ByteArray := prog_7_method_9_code
def yX5_isHead : MethodName := ⟨RX5, "isHead", "(I)Z"⟩
abbrev cX5_digit : ByteArray := prog_7_method_10_code
def yX5_digit : MethodName := ⟨RX5, "digit", "(III)I"⟩
abbrev cX5_isSign : ByteArray := prog_7_method_11_code
def yX5_isSign : MethodName := ⟨RX5, "isSign", "(II)Z"⟩
abbrev cX5_court : ByteArray := prog_7_method_12_code
def yX5_court : MethodName := ⟨RX5, "court", "(IIII)I"⟩
abbrev cX5_readCourt : ByteArray := prog_7_method_13_code
def yX5_readCourt : MethodName := ⟨RX5, "readCourt", "(I)Z"⟩
abbrev cX5_readHead : ByteArray := prog_7_method_14_code
def yX5_readHead : MethodName := ⟨RX5, "readHead", "(I)Z"⟩
abbrev cX5_lasts : ByteArray := prog_7_method_15_code
def yX5_lasts : MethodName := ⟨RX5, "lasts", "(I)I"⟩
abbrev cX5_ofHead : ByteArray := prog_7_method_16_code
def yX5_ofHead : MethodName := ⟨RX5, "ofHead", "(II)I"⟩
abbrev cX5_wear : ByteArray := prog_7_method_17_code
def yX5_wear : MethodName := ⟨RX5, "wear", "(II)I"⟩
abbrev cX5_knows : ByteArray := prog_7_method_18_code
def yX5_knows : MethodName := ⟨RX5, "knows", "(II)I"⟩
abbrev cX5_begin : ByteArray := prog_7_method_19_code
def yX5_begin : MethodName := ⟨RX5, "begin", "()V"⟩
abbrev cX5_change : ByteArray := prog_7_method_20_code
def yX5_change : MethodName := ⟨RX5, "change", "(I)V"⟩
abbrev cX5_visit : ByteArray := prog_7_method_21_code
def yX5_visit : MethodName := ⟨RX5, "visit", "(I)Z"⟩
abbrev cX5_layVisits : ByteArray := prog_7_method_22_code
def yX5_layVisits : MethodName := ⟨RX5, "layVisits", "(IIII)I"⟩
abbrev cX5_isRow : ByteArray := prog_7_method_23_code
def yX5_isRow : MethodName := ⟨RX5, "isRow", "(II)Z"⟩
abbrev cX5_go : ByteArray := prog_7_method_24_code
def yX5_go : MethodName := ⟨RX5, "go", "()I"⟩
abbrev cX5_isWhat : ByteArray := prog_7_method_25_code
def yX5_isWhat : MethodName := ⟨RX5, "isWhat", "(I)Z"⟩
abbrev cX5_visits : ByteArray := prog_7_method_26_code
def yX5_visits : MethodName := ⟨RX5, "visits", "(IIIII)I"⟩
abbrev cX5_tellVisits : ByteArray := prog_7_method_27_code
def yX5_tellVisits : MethodName := ⟨RX5, "tellVisits", "(I)I"⟩
abbrev cX5_atHome : ByteArray := prog_7_method_28_code
def yX5_atHome : MethodName := ⟨RX5, "atHome", "()I"⟩
abbrev cX5_firstAway : ByteArray := prog_7_method_29_code
def yX5_firstAway : MethodName := ⟨RX5, "firstAway", "()I"⟩
abbrev cX5_home : ByteArray := prog_7_method_30_code
def yX5_home : MethodName := ⟨RX5, "home", "()I"⟩
abbrev cX5_worn : ByteArray := prog_7_method_31_code
def yX5_worn : MethodName := ⟨RX5, "worn", "()I"⟩
abbrev cX5_fooled : ByteArray := prog_7_method_32_code
def yX5_fooled : MethodName := ⟨RX5, "fooled", "(I)I"⟩
abbrev cX5_layRow : ByteArray := prog_7_method_33_code
def yX5_layRow : MethodName := ⟨RX5, "layRow", "(II)V"⟩
abbrev cX5_findPlan : ByteArray := prog_7_method_34_code
def yX5_findPlan : MethodName := ⟨RX5, "findPlan", "(II)V"⟩
abbrev cX5_plan : ByteArray := prog_7_method_35_code
def yX5_plan : MethodName := ⟨RX5, "plan", "(III)I"⟩
abbrev cX5_reading : ByteArray := prog_7_method_36_code
def yX5_reading : MethodName := ⟨RX5, "reading", "(III)I"⟩
abbrev cX5_back : ByteArray := prog_7_method_37_code
def yX5_back : MethodName := ⟨RX5, "back", "(I)I"⟩
abbrev cX5_areSoBehind : ByteArray := prog_7_method_38_code
def yX5_areSoBehind : MethodName := ⟨RX5, "areSoBehind", "(I)Z"⟩
abbrev cX5_areSo : ByteArray := prog_7_method_39_code
def yX5_areSo : MethodName := ⟨RX5, "areSo", "()Z"⟩
abbrev cX5_who : ByteArray := prog_7_method_40_code
def yX5_who : MethodName := ⟨RX5, "who", "(IIIII)I"⟩
abbrev cX5_lay : ByteArray := prog_7_method_41_code
def yX5_lay : MethodName := ⟨RX5, "lay", "(IIIII)I"⟩
abbrev cX5_kinds : ByteArray := prog_7_method_42_code
def yX5_kinds : MethodName := ⟨RX5, "kinds", "(IIIII)I"⟩
abbrev cX5_wears : ByteArray := prog_7_method_43_code
def yX5_wears : MethodName := ⟨RX5, "wears", "(IIIII)I"⟩
abbrev cX5_inLeastTerms : ByteArray := prog_7_method_44_code
def yX5_inLeastTerms : MethodName := ⟨RX5, "inLeastTerms", "(JJI)J"⟩
abbrev cX5_odds : ByteArray := prog_7_method_45_code
def yX5_odds : MethodName := ⟨RX5, "odds", "(IIII)J"⟩
abbrev cX5_sheet : ByteArray := prog_7_method_46_code
def yX5_sheet : MethodName := ⟨RX5, "sheet", "(III)I"⟩
abbrev cX5_lose : ByteArray := prog_7_method_47_code
def yX5_lose : MethodName := ⟨RX5, "lose", "(I)I"⟩
abbrev cX5_put : ByteArray := prog_7_method_48_code
def yX5_put : MethodName := ⟨RX5, "put", "(III)I"⟩
abbrev cX5_cell : ByteArray := prog_7_method_49_code
def yX5_cell : MethodName := ⟨RX5, "cell", "(III)J"⟩
abbrev cX5_copy : ByteArray := prog_7_method_50_code
def yX5_copy : MethodName := ⟨RX5, "copy", "(IIIII)I"⟩
abbrev cX5_begins : ByteArray := prog_7_method_51_code
def yX5_begins : MethodName := ⟨RX5, "begins", "(I)V"⟩
abbrev cX5_tell : ByteArray := prog_7_method_52_code
def yX5_tell : MethodName := ⟨RX5, "tell", "(I)I"⟩
abbrev cX5_greet : ByteArray := prog_7_method_53_code
def yX5_greet : MethodName := ⟨RX5, "greet", "(I)I"⟩
abbrev cX5_as : ByteArray := prog_7_method_54_code
def yX5_as : MethodName := ⟨RX5, "as", "(II)I"⟩
abbrev cX5_trace : ByteArray := prog_7_method_55_code
def yX5_trace : MethodName := ⟨RX5, "trace", "()I"⟩
abbrev cX5_fault : ByteArray := prog_7_method_56_code
def yX5_fault : MethodName := ⟨RX5, "fault", "()I"⟩
abbrev cX5_many : ByteArray := prog_7_method_57_code
def yX5_many : MethodName := ⟨RX5, "many", "(I)I"⟩
def RJ9 : String := "java/lang/Math"
def TJ9 : u_T := fun k => match k with
  | _ => ("", "", "", false)
def tyJ9 : Nat → FieldType := fun k => match k with
  | _ => .int
abbrev wsJ90 : List Cond := u_ws RJ9 TJ9 0
theorem nmJ9 : ∀ a, a < 0 → ∀ b, b < 0 → a ≠ b → (TJ9 a).2.1 ≠ (TJ9 b).2.1 := by decide +kernel
theorem tyJ9_ok : ∀ k, k < 0 → parseFieldDescriptor (TJ9 k).2.2.1 = some (tyJ9 k) := by decide +kernel
abbrev cJ9_max_7cf53 : ByteArray := prog_8_method_65_code
def yJ9_max_7cf53 : MethodName := ⟨RJ9, "max", "(II)I"⟩
abbrev cJ9_min_7cf53 : ByteArray := prog_8_method_69_code
def yJ9_min_7cf53 : MethodName := ⟨RJ9, "min", "(II)I"⟩
def RJ10 : String := "java/lang/System"
def TJ10 : u_T := fun k => match k with
  | _ => ("", "", "", false)
def tyJ10 : Nat → FieldType := fun k => match k with
  | _ => .int
abbrev wsJ100 : List Cond := u_ws RJ10 TJ10 0
theorem nmJ10 : ∀ a, a < 0 → ∀ b, b < 0 → a ≠ b → (TJ10 a).2.1 ≠ (TJ10 b).2.1 := by decide +kernel
theorem tyJ10_ok : ∀ k, k < 0 → parseFieldDescriptor (TJ10 k).2.2.1 = some (tyJ10 k) := by decide +kernel
def RL : String := "FaceGlassLaw"
abbrev cL_law : ByteArray := code
def yL_law : MethodName := ⟨RL, "law", "([I)Z"⟩
theorem mem_ps {ws big : List Cond} (ps : List Nat) (h : ws = ps.filterMap (fun i => big[i]?)) : ∀ w ∈ ws, w ∈ big := by
  intro w hw
  rw [h] at hw
  obtain ⟨i, -, hi⟩ := List.mem_filterMap.mp hw
  exact List.mem_of_getElem? hi
set_option maxRecDepth 20000 in
theorem inX0 : ∀ w ∈ wsX00, w ∈ lw_tbl := mem_ps [102, 104, 106, 108] (by decide +kernel)
set_option maxRecDepth 20000 in
theorem inX1 : ∀ w ∈ wsX10, w ∈ lw_tbl := mem_ps [128, 130, 132, 134, 136] (by decide +kernel)
set_option maxRecDepth 20000 in
theorem inX2 : ∀ w ∈ wsX20, w ∈ lw_tbl := mem_ps [150, 152, 154, 156] (by decide +kernel)
set_option maxRecDepth 20000 in
theorem inX3 : ∀ w ∈ wsX30, w ∈ lw_tbl := mem_ps [77, 79, 81] (by decide +kernel)
set_option maxRecDepth 20000 in
theorem inX4 : ∀ w ∈ wsX40, w ∈ lw_tbl := mem_ps [167, 169, 171, 173, 175, 177, 179, 181] (by decide +kernel)
set_option maxRecDepth 20000 in
theorem inX5 : ∀ w ∈ wsX50, w ∈ lw_tbl := mem_ps [491, 493, 495, 497, 499, 501, 503, 505, 507, 509, 511, 513, 515, 517, 519, 521, 523, 525, 527, 529, 531, 533] (by decide +kernel)
end
section
/-! THE STORE JUDGEMENT: all 37 cells (23 of the class, 14 of the reference) have fixed addresses; a state is a store of ints. -/
abbrev St : Type := Nat → Nat → Int32
abbrev MV : Type := Int32 ⊕ (Int64 ⊕ Nat)
abbrev GG : Type := Launch × va_G × (Nat → Nat) × ClassId × ClassId
abbrev MD : Type := MethodName × ByteArray × Nat × Option FieldType
abbrev vI (x : Int32) : MV := .inl x
abbrev vL (x : Int64) : MV := .inr (.inl x)
abbrev vR (j : Nat) : MV := .inr (.inr j)
def toV (g : GG) (v : MV) : Value := match v with
  | .inl x => .int x
  | .inr (.inl x) => .long x
  | .inr (.inr j) => .ref (g.2.2.1 j)
abbrev classes : List vw_C := [(RX0, TX0, 4), (RX1, TX1, 5), (RX2, TX2, 4), (RX3, TX3, 3), (RX4, TX4, 8), (RX5, TX5, 22)]
abbrev tysG (g : GG) : List (ClassId × FieldType) := [(g.2.2.2.1, .int), (g.2.2.2.2, .object RX3)]
/-- the shape of a cell: an array of so many ints, or an object of a class with its fields (some t: the cell t; none: an int) -/
def shp (j : Nat) : Nat ⊕ (Nat × List (Option Nat)) := match j with
  | 0 => .inr (4, [some 1, some 10, some 14, some 18, some 22, none, none, none])
  | 2 => .inr (3, [some 6, none, none])
  | 3 => .inr (3, [some 7, none, none])
  | 4 => .inr (3, [some 8, none, none])
  | 5 => .inr (3, [some 9, none, none])
  | 6 => .inl 60
  | 7 => .inl 60
  | 8 => .inl 60
  | 9 => .inl 60
  | 10 => .inr (0, [some 11, some 12, some 13, none])
  | 11 => .inl 5
  | 12 => .inl 5
  | 13 => .inl 5
  | 14 => .inr (1, [some 15, some 16, some 17, none, none])
  | 15 => .inl 5
  | 16 => .inl 5
  | 17 => .inl 5
  | 18 => .inr (2, [some 19, some 20, some 21, none])
  | 19 => .inl 8
  | 20 => .inl 8
  | 21 => .inl 8
  | 22 => .inl 20
  | 23 => .inr (5, [none, none, some 24, some 25, some 26, none, some 27, some 28, some 29, none, none, some 30, some 31, some 32, none, none, some 33, none, none, some 34, some 35, some 36])
  | 24 => .inl 4
  | 25 => .inl 4
  | 26 => .inl 240
  | 27 => .inl 5
  | 28 => .inl 5
  | 29 => .inl 5
  | 30 => .inl 15
  | 31 => .inl 5
  | 32 => .inl 5
  | 33 => .inl 20
  | 34 => .inl 8
  | 35 => .inl 8
  | 36 => .inl 8
  | _ => .inl 0
def fvv (g : GG) (r : Option Nat) (x : Int32) : Value := match r with
  | some t => .ref (g.2.2.1 t)
  | none => .int x
def fvs (g : GG) (l : List (Option Nat)) (f : Nat → Int32) : List Value := (List.range l.length).map (fun k => fvv g ((l[k]?).getD none) (f k))
def cel (g : GG) (j : Nat) (f : Nat → Int32) : va_E := if j = 1 then .inl (g.2.2.2.2, 4, .inr (.inr (.inr (.inr (fun i => some (g.2.2.1 (2 + i))))))) else match shp j with
  | .inl n => .inl (g.2.2.2.1, n, .inl f)
  | .inr q => .inr (q.1, fvs g q.2 f)
def WS (g : GG) (σ : St) : va_W := (List.range 37).map (fun j => (g.2.2.1 j, cel g j (σ j)))
def sU (σ : St) (j k : Nat) (v : Int32) : St := fun a => if a = j then upd (σ j) k v else σ a
def AA (g : GG) : Nat → Prop := fun q => ∃ j, j < 37 ∧ q = g.2.2.1 j
def Apt (g : GG) : Prop := ∀ i j, i < 37 → j < 37 → g.2.2.1 i = g.2.2.1 j → i = j
theorem WS_at (g : GG) (σ : St) {j : Nat} (h : j < 37) : (WS g σ)[j]? = some (g.2.2.1 j, cel g j (σ j)) := by
  simp [WS, h]
theorem WS_ge (g : GG) (σ : St) {j : Nat} {q : Nat × va_E} (h : (WS g σ)[j]? = some q) : j < 37 ∧ q = (g.2.2.1 j, cel g j (σ j)) := by
  have hj : j < 37 := by
    have := (List.getElem?_eq_some_iff.mp h).1
    simpa [WS] using this
  rw [WS_at g σ hj] at h
  exact ⟨hj, (Option.some.inj h).symm⟩
theorem WS_set (g : GG) (σ σ' : St) {j : Nat} (hj : j < 37) (e : va_E) (he : cel g j (σ' j) = e) (ho : ∀ i, i ≠ j → σ' i = σ i) : (WS g σ).set j (g.2.2.1 j, e) = WS g σ' := by
  apply List.ext_getElem?
  intro i
  by_cases hi : i = j
  · subst hi
    rw [List.getElem?_set_self (by simpa [WS] using hj), WS_at g σ' hj, he]
  · rw [List.getElem?_set_ne (Ne.symm hi)]
    by_cases hl : i < 37
    · rw [WS_at g σ hl, WS_at g σ' hl, ho i hi]
    · rw [List.getElem?_eq_none (by simpa [WS] using Nat.not_lt.mp hl), List.getElem?_eq_none (by simpa [WS] using Nat.not_lt.mp hl)]
theorem sU_o {σ : St} {j k : Nat} {v : Int32} {i : Nat} (h : i ≠ j) : sU σ j k v i = σ i := by simp [sU, h]
theorem sU_s {σ : St} {j k : Nat} {v : Int32} : sU σ j k v j = upd (σ j) k v := by simp [sU]
theorem WS_D {g : GG} (h : Apt g) {A : Nat → Prop} (hA : ∀ j, j < 37 → A (g.2.2.1 j)) (σ : St) : va_D A (WS g σ) := by
  refine ⟨fun i j p q hi hj he => ?_, fun k q hk => ?_⟩
  · obtain ⟨li, rfl⟩ := WS_ge g σ hi
    obtain ⟨lj, rfl⟩ := WS_ge g σ hj
    exact h i j li lj he
  · obtain ⟨lk, rfl⟩ := WS_ge g σ hk
    exact hA k lk
/-- the field k of the object j, of the class ci: none: an int; some t: the cell t -/
def ofld (j ci k : Nat) : Option (Option Nat) := match shp j with
  | .inr (c, l) => if c = ci then l[k]? else none
  | .inl _ => none
def alen (j : Nat) : Nat := match shp j with
  | .inl n => n
  | _ => 0
def isA (j : Nat) : Bool := match shp j with
  | .inl n => !(n == 0)
  | _ => false
theorem shp_lt {j : Nat} (h : shp j ≠ .inl 0) : j < 37 ∧ j ≠ 1 := by
  refine ⟨?_, fun e => h (by rw [e]; rfl)⟩
  rcases Nat.lt_or_ge j 37 with q | q
  · exact q
  · exfalso
    apply h
    obtain ⟨k, rfl⟩ : ∃ k, j = k + 37 := ⟨j - 37, by omega⟩
    rfl
theorem ofld_sh {j ci k : Nat} {r : Option Nat} (h : ofld j ci k = some r) : ∃ l, shp j = .inr (ci, l) ∧ l[k]? = some r := by
  unfold ofld at h
  cases e : shp j with
  | inl n => rw [e] at h; cases h
  | inr q =>
    obtain ⟨c, l⟩ := q
    rw [e] at h
    dsimp only at h
    by_cases hc : c = ci
    · rw [if_pos hc] at h
      exact ⟨l, by rw [hc], h⟩
    · rw [if_neg hc] at h; cases h
theorem cel_o {g : GG} {j ci : Nat} {l : List (Option Nat)} (h : shp j = .inr (ci, l)) (f : Nat → Int32) : j < 37 ∧ cel g j f = .inr (ci, fvs g l f) := by
  obtain ⟨h1, h2⟩ := shp_lt (j := j) (by rw [h]; exact fun q => by cases q)
  refine ⟨h1, ?_⟩
  unfold cel
  rw [if_neg h2, h]
theorem isA_sh {j : Nat} (h : isA j = true) : shp j = .inl (alen j) ∧ j < 37 ∧ ∀ (g : GG) (f : Nat → Int32), cel g j f = .inl (g.2.2.2.1, alen j, .inl f) := by
  have e : shp j = .inl (alen j) := by
    unfold alen
    unfold isA at h
    cases e : shp j with
    | inl n => rfl
    | inr q => rw [e] at h; cases h
  have hne : shp j ≠ .inl 0 := by
    intro q
    unfold isA at h
    rw [q] at h
    exact absurd h (by decide)
  obtain ⟨h1, h2⟩ := shp_lt hne
  refine ⟨e, h1, fun g f => ?_⟩
  unfold cel
  rw [if_neg h2, e]
theorem fvs_at {g : GG} {l : List (Option Nat)} {f : Nat → Int32} {k : Nat} {r : Option Nat} (h : l[k]? = some r) : (fvs g l f)[k]? = some (fvv g r (f k)) := by
  have hk : k < l.length := (List.getElem?_eq_some_iff.mp h).1
  unfold fvs
  rw [List.getElem?_map, List.getElem?_range hk]
  show some (fvv g ((l[k]?).getD none) (f k)) = some _
  rw [h]
  rfl
theorem fvs_set {g : GG} {l : List (Option Nat)} {f : Nat → Int32} {k : Nat} (h : l[k]? = some none) (v : Int32) : (fvs g l f).set k (.int v) = fvs g l (upd f k v) := by
  have hk : k < l.length := (List.getElem?_eq_some_iff.mp h).1
  apply List.ext_getElem?
  intro i
  by_cases hi : i = k
  · subst hi
    rw [List.getElem?_set_self (by simpa [fvs] using hk), fvs_at h]
    simp [upd, fvv]
  · rw [List.getElem?_set_ne (Ne.symm hi)]
    unfold fvs
    rw [List.getElem?_map, List.getElem?_map]
    by_cases hl : i < l.length
    · rw [List.getElem?_range hl]
      simp [upd, hi]
    · rw [List.getElem?_eq_none (by simpa using Nat.not_lt.mp hl)]
      rfl
/-! the judgement -/
def isNest (w : Cond) : Bool := match w with
  | .fieldLinkNest _ _ _ _ _ _ => true
  | .methodLinkNest _ _ _ _ => true
  | _ => false
def tblG : List Cond := lw_tbl.filter goodWord
def tblN : List Cond := lw_tbl.filter isNest
def tblU : List Cond := lw_tbl.filter (fun w => goodWord w || isNest w)
def wsM (M : MD) : List Cond := .code M.1 M.2.1 M.2.2.1 M.2.2.2 :: tblG
def rmD (d : Nat) : Room := { frames := d, cells := 0, slots := 0, locals := 40 * d }
def NW (U : State) : Prop := ∀ w ∈ tblN, va_Nw w U
theorem NW_hts {args : Array Value} {s : State} (h1 : ∀ w ∈ tblG, w.before args s = true) (h2 : NW s) : ∀ w ∈ tblU, w.before args s = true := by
  intro w hw
  obtain ⟨hw, h⟩ := List.mem_filter.mp hw
  rw [Bool.or_eq_true] at h
  rcases h with h | h
  · exact h1 w (List.mem_filter.mpr ⟨hw, h⟩)
  · have hN := h2 w (List.mem_filter.mpr ⟨hw, h⟩)
    cases w <;> first | (exact va_Nw.use rfl hN) | (exact absurd h (by simp [isNest]))
theorem NW_warm {s U : State} (hW : s.WarmedH U.vm) {args : Array Value} (h : ∀ w ∈ tblU, w.before args s = true) : NW U := by
  intro w hw
  obtain ⟨h1, h2⟩ := List.mem_filter.mp hw
  have hb := h w (List.mem_filter.mpr ⟨h1, by rw [h2, Bool.or_true]⟩)
  cases w <;> first | (exact va_Nw.warmF hW (va_Nw.of rfl hb)) | (exact va_Nw.warmM hW (va_Nw.of rfl hb)) | (exact absurd h2 (by simp [isNest]))
theorem tblG_good {big : List Cond} (h : ∀ w ∈ tblG, w ∈ big) : GoodIn big tblG := fun w hw => ⟨h w hw, good_of_word (List.mem_filter.mp hw).2⟩
theorem tblG_U : ∀ w ∈ tblG, w ∈ tblU := fun w hw => List.mem_filter.mpr ⟨(List.mem_filter.mp hw).1, by rw [(List.mem_filter.mp hw).2, Bool.true_or]⟩
/-- a word of the tables, by its place -/
def Wd (i : Nat) (w : Cond) : Prop := lw_tbl[i]? = some w ∧ (goodWord w || isNest w) = true
theorem Wd.U {i : Nat} {w : Cond} (h : Wd i w) : w ∈ tblU := List.mem_filter.mpr ⟨List.mem_of_getElem? h.1, h.2⟩
theorem NW_same {u U : State} (h : u.vm = U.vm) (hN : NW u) : NW U := by
  intro w hw
  have hb := hN w hw
  obtain ⟨h1, h2⟩ := List.mem_filter.mp hw
  cases w <;> first | (exact va_Nw.same rfl h hb) | (exact absurd h2 (by simp [isNest]))
def rvM (g : GG) (rt : Option FieldType) (r : MV) : Option Value := match rt with
  | none => none
  | some _ => some (toV g r)
def PcM (g : GG) (as : List MV) (σ : St) : Array Value → State → Prop := va_Pc (as.map (toV g)) (fun U => va_P g.2.1 classes (WS g σ) U.heap ∧ va_K g.2.1 classes (tysG g) U ∧ NW U)
def QcM (g : GG) (rt : Option FieldType) (Q : MV → St → Prop) : Array Value → State → Outcome → State → Prop := fun _ st oc t => (∃ (r : MV) (σ' : St), oc = .returned (rvM g rt r) ∧ Q r σ' ∧ va_P g.2.1 classes (WS g σ') t.heap) ∧ va_F (AA g) st t
/-- THE CONTRACT of a method: from the store σ, with the arguments as, it returns, and Q holds of its answer and the new store -/
def ME (g : GG) (d : Nat) (M : MD) (as : List MV) (σ : St) (Q : MV → St → Prop) : Prop := Apt g → Met g.1 M.1 (wsM M) (rmD d) (PcM g as σ) (QcM g M.2.2.2 Q) 0 0 (AA g)
def CT (g : GG) (AF : State → Nat → Prop) (EX : State → Prop) (M : MD) (p : Program) (s : State) (m : MethodId) (args : Array Value) (meth : Method) (c : Code) : Prop :=
  p.tables.exec = Jvm.exec ∧ c.code = M.2.1 ∧ meth.sig.returnType = M.2.2.2 ∧ c.maxLocals = M.2.2.1 ∧ s.vm.findClass M.1.cls = some m.cls ∧ (∀ w ∈ tblU, w.before args s = true) ∧ meth.locks = false ∧ va_K g.2.1 classes (tysG g) s ∧ (Apt g ∧ ∀ j, j < 37 → AF s (g.2.2.1 j)) ∧ EX s
abbrev lsV (g : GG) (ls : List (Nat × MV)) : List (Nat × Value) := ls.map (fun q => (q.1, toV g q.2))
abbrev stV (g : GG) (st : List MV) : List Value := st.map (toV g)
/-- the machine, at pc with these locals, this stack and this store, comes to its end as ZZ says -/
def VE (g : GG) (R : Room) (kc ks : Nat) (ZZ : List Frame → Array Value → State → State → Prop) (AF : State → Nat → Prop) (EX : State → Prop) (M : MD) (pc : Nat) (ls : List (Nat × MV)) (st : List MV) (σ : St) : Prop :=
  ∀ (p : Program) (e : Env) (s : State) (m : MethodId) (args : Array Value) (below : List Frame) (meth : Method) (c : Code) (H : Heap) (locs : List Loc) (lA : Array Slot),
    CT g AF EX M p s m args meth c → va_P g.2.1 classes (WS g σ) H → va_S (AF s) s.heap H locs → lv_has lA M.2.2.1 (lsV g ls) →
    W p g.1 e R s m args below meth c H locs kc ks (ZZ below args s) (F0 m pc lA (stV g st))
def zM (g : GG) (M : MD) (Q : MV → St → Prop) : List Frame → Array Value → State → State → Prop := fun below a s => MQ below (QcM g M.2.2.2 Q) a s 0 0 (AA g)
abbrev VM (g : GG) (d : Nat) (M : MD) (Q : MV → St → Prop) : Nat → List (Nat × MV) → List MV → St → Prop := VE g (rmD d) 0 0 (zM g M Q) (fun _ => AA g) (fun _ => True) M
end
section
/-! one lemma an instruction -/
theorem lsV_at {g : GG} {ls : List (Nat × MV)} {q i : Nat} {v : MV} (h : ls[q]? = some (i, v)) : (lsV g ls)[q]? = some (i, toV g v) := by
  rw [List.getElem?_map, h]; rfl
def cat2 (v : MV) : Bool := match v with
  | .inr (.inl _) => true
  | _ => false
def stL (i : Nat) (v : MV) (ls : List (Nat × MV)) : List (Nat × MV) := (i, v) :: ls.filter (fun q => !(q.1 == i) && !(q.1 + 1 == i && cat2 q.2))
def stL2 (i : Nat) (v : MV) (ls : List (Nat × MV)) : List (Nat × MV) := (i, v) :: ls.filter (fun q => !(q.1 == i) && (!(q.1 == i + 1) && !(q.1 + 1 == i && cat2 q.2)))
theorem cat2_ok (g : GG) (v : MV) : ((toV g v).category == 2) = cat2 v := by
  rcases v with x | x | x <;> rfl
theorem stL_ok (g : GG) (i : Nat) (v : MV) (ls : List (Nat × MV)) : (i, toV g v) :: (lsV g ls).filter (fun q => !(q.1 == i) && !(q.1 + 1 == i && q.2.category == 2)) = lsV g (stL i v ls) := by
  show _ = (i, toV g v) :: lsV g _
  congr 1
  rw [List.filter_map]
  congr 1
  apply List.filter_congr
  intro q _
  show _ = _
  simp only [Function.comp, cat2_ok]
theorem stL2_ok (g : GG) (i : Nat) (v : MV) (ls : List (Nat × MV)) : (i, toV g v) :: (lsV g ls).filter (fun q => !(q.1 == i) && (!(q.1 == i + 1) && !(q.1 + 1 == i && q.2.category == 2))) = lsV g (stL2 i v ls) := by
  show _ = (i, toV g v) :: lsV g _
  congr 1
  rw [List.filter_map]
  congr 1
  apply List.filter_congr
  intro q _
  show _ = _
  simp only [Function.comp, cat2_ok]
section VEI
variable {g : GG} {R : Room} {kc ks : Nat} {ZZ : List Frame → Array Value → State → State → Prop} {AF : State → Nat → Prop} {EX : State → Prop} {M : MD} {pc : Nat} {ls : List (Nat × MV)} {st : List MV} {σ : St}
/-- fewer listed locals, in any order: by their places -/
theorem VE_sub (ps : List Nat) {ls' : List (Nat × MV)} (h : ps.filterMap (fun k => ls[k]?) = ls') (k : VE g R kc ks ZZ AF EX M pc ls' st σ) : VE g R kc ks ZZ AF EX M pc ls st σ := by
  intro p e s m args below meth c H locs lA C hP hS hl
  refine k p e s m args below meth c H locs lA C hP hS ⟨hl.1, hl.2.1, fun q hq => ?_⟩
  subst h
  obtain ⟨q', h1, h2⟩ := List.mem_map.mp hq
  obtain ⟨i, -, hi⟩ := List.mem_filterMap.mp h1
  exact hl.2.2 q (List.mem_map.mpr ⟨q', List.mem_of_getElem? hi, h2⟩)
theorem VE_at {pc' : Nat} {ls' : List (Nat × MV)} {st' : List MV} {σ' : St} (k : VE g R kc ks ZZ AF EX M pc' ls' st' σ') (h1 : pc = pc' := by rfl) (h2 : ls = ls' := by rfl) (h3 : st = st' := by rfl) (h4 : σ = σ' := by rfl) : VE g R kc ks ZZ AF EX M pc ls st σ := by
  subst h1; subst h2; subst h3; subst h4; exact k
theorem VE_iconst {n : Int} (v : Int32) (hd : decode M.2.1 pc = .ok (.iconst n, 1)) (hv : Int32.ofInt n = v := by rfl) (k : VE g R kc ks ZZ AF EX M (pc + 1) ls (vI v :: st) σ) : VE g R kc ks ZZ AF EX M pc ls (st) σ := by
  intro p e s m args below meth c H locs lA C hP hS hl
  exact lv_iconst C.1 C.2.1 hd hv (k p e s m args below meth c H locs lA C hP hS hl)
theorem VE_bipush {n : Int} (v : Int32) (hd : decode M.2.1 pc = .ok (.bipush n, 2)) (hv : (Int8.ofInt n).toInt32 = v := by rfl) (k : VE g R kc ks ZZ AF EX M (pc + 2) ls (vI v :: st) σ) : VE g R kc ks ZZ AF EX M pc ls (st) σ := by
  intro p e s m args below meth c H locs lA C hP hS hl
  exact lv_bipush C.1 C.2.1 hd hv (k p e s m args below meth c H locs lA C hP hS hl)
theorem VE_sipush {n : Int} (v : Int32) (hd : decode M.2.1 pc = .ok (.sipush n, 3)) (hv : (Int16.ofInt n).toInt32 = v := by rfl) (k : VE g R kc ks ZZ AF EX M (pc + 3) ls (vI v :: st) σ) : VE g R kc ks ZZ AF EX M pc ls (st) σ := by
  intro p e s m args below meth c H locs lA C hP hS hl
  exact lv_sipush C.1 C.2.1 hd hv (k p e s m args below meth c H locs lA C hP hS hl)
theorem VE_lconst {n : Fin 2} (v : Int64) (hd : decode M.2.1 pc = .ok (.lconst n, 1)) (hv : Int64.ofNat (n : Nat) = v := by rfl) (k : VE g R kc ks ZZ AF EX M (pc + 1) ls (vL v :: st) σ) : VE g R kc ks ZZ AF EX M pc ls (st) σ := by
  intro p e s m args below meth c H locs lA C hP hS hl
  exact lv_lconst C.1 C.2.1 hd hv (k p e s m args below meth c H locs lA C hP hS hl)
theorem VE_iload_n {i : Fin 4} {x : Int32} (q : Nat) (hd : decode M.2.1 pc = .ok (.iload_n i, 1)) (h : ls[q]? = some ((i : Nat), vI x) := by rfl) (k : VE g R kc ks ZZ AF EX M (pc + 1) ls (vI x :: st) σ) : VE g R kc ks ZZ AF EX M pc ls (st) σ := by
  intro p e s m args below meth c H locs lA C hP hS hl
  exact lv_iload_n C.1 C.2.1 hd rfl (lv_at hl q (lsV_at h)) (k p e s m args below meth c H locs lA C hP hS hl)
theorem VE_iload {i : Nat} {x : Int32} (q : Nat) (hd : decode M.2.1 pc = .ok (.iload i, 2)) (h : ls[q]? = some (i, vI x) := by rfl) (k : VE g R kc ks ZZ AF EX M (pc + 2) ls (vI x :: st) σ) : VE g R kc ks ZZ AF EX M pc ls (st) σ := by
  intro p e s m args below meth c H locs lA C hP hS hl
  exact lv_iload C.1 C.2.1 hd (lv_at hl q (lsV_at h)) (k p e s m args below meth c H locs lA C hP hS hl)
theorem VE_lload_n {i : Fin 4} {x : Int64} (q : Nat) (hd : decode M.2.1 pc = .ok (.lload_n i, 1)) (h : ls[q]? = some ((i : Nat), vL x) := by rfl) (k : VE g R kc ks ZZ AF EX M (pc + 1) ls (vL x :: st) σ) : VE g R kc ks ZZ AF EX M pc ls (st) σ := by
  intro p e s m args below meth c H locs lA C hP hS hl
  exact lv_lload_n C.1 C.2.1 hd rfl (lv_at hl q (lsV_at h)) (k p e s m args below meth c H locs lA C hP hS hl)
theorem VE_lload {i : Nat} {x : Int64} (q : Nat) (hd : decode M.2.1 pc = .ok (.lload i, 2)) (h : ls[q]? = some (i, vL x) := by rfl) (k : VE g R kc ks ZZ AF EX M (pc + 2) ls (vL x :: st) σ) : VE g R kc ks ZZ AF EX M pc ls (st) σ := by
  intro p e s m args below meth c H locs lA C hP hS hl
  exact lv_lload C.1 C.2.1 hd (lv_at hl q (lsV_at h)) (k p e s m args below meth c H locs lA C hP hS hl)
theorem VE_aload_n {i : Fin 4} {x : Nat} (q : Nat) (hd : decode M.2.1 pc = .ok (.aload_n i, 1)) (h : ls[q]? = some ((i : Nat), vR x) := by rfl) (k : VE g R kc ks ZZ AF EX M (pc + 1) ls (vR x :: st) σ) : VE g R kc ks ZZ AF EX M pc ls (st) σ := by
  intro p e s m args below meth c H locs lA C hP hS hl
  exact lv_aload_n C.1 C.2.1 hd rfl (lv_at hl q (lsV_at h)) (k p e s m args below meth c H locs lA C hP hS hl)
theorem VE_aload {i : Nat} {x : Nat} (q : Nat) (hd : decode M.2.1 pc = .ok (.aload i, 2)) (h : ls[q]? = some (i, vR x) := by rfl) (k : VE g R kc ks ZZ AF EX M (pc + 2) ls (vR x :: st) σ) : VE g R kc ks ZZ AF EX M pc ls (st) σ := by
  intro p e s m args below meth c H locs lA C hP hS hl
  exact lv_aload C.1 C.2.1 hd (lv_at hl q (lsV_at h)) (k p e s m args below meth c H locs lA C hP hS hl)
theorem VE_istore_n {i : Fin 4} {x : Int32} {ls' : List (Nat × MV)} (hd : decode M.2.1 pc = .ok (.istore_n i, 1)) (k : VE g R kc ks ZZ AF EX M (pc + 1) ls' st σ) (hn : (i : Nat) < M.2.2.1 := by decide) (h : stL i (vI x) ls = ls' := by rfl) : VE g R kc ks ZZ AF EX M pc ls (vI x :: st) σ := by
  subst h
  intro p e s m args below meth c H locs lA C hP hS hl
  exact lv_istore_n C.1 C.2.1 hd rfl hl hn (stL_ok g i (vI x) ls) (fun l1 h1 => k p e s m args below meth c H locs l1 C hP hS h1)
theorem VE_istore {i : Nat} {x : Int32} {ls' : List (Nat × MV)} (hd : decode M.2.1 pc = .ok (.istore i, 2)) (k : VE g R kc ks ZZ AF EX M (pc + 2) ls' st σ) (hn : (i : Nat) < M.2.2.1 := by decide) (h : stL i (vI x) ls = ls' := by rfl) : VE g R kc ks ZZ AF EX M pc ls (vI x :: st) σ := by
  subst h
  intro p e s m args below meth c H locs lA C hP hS hl
  exact lv_istore C.1 C.2.1 hd hl hn (stL_ok g i (vI x) ls) (fun l1 h1 => k p e s m args below meth c H locs l1 C hP hS h1)
theorem VE_astore_n {i : Fin 4} {x : Nat} {ls' : List (Nat × MV)} (hd : decode M.2.1 pc = .ok (.astore_n i, 1)) (k : VE g R kc ks ZZ AF EX M (pc + 1) ls' st σ) (hn : (i : Nat) < M.2.2.1 := by decide) (h : stL i (vR x) ls = ls' := by rfl) : VE g R kc ks ZZ AF EX M pc ls (vR x :: st) σ := by
  subst h
  intro p e s m args below meth c H locs lA C hP hS hl
  exact lv_astore_n C.1 C.2.1 hd rfl hl hn (stL_ok g i (vR x) ls) (fun l1 h1 => k p e s m args below meth c H locs l1 C hP hS h1)
theorem VE_astore {i : Nat} {x : Nat} {ls' : List (Nat × MV)} (hd : decode M.2.1 pc = .ok (.astore i, 2)) (k : VE g R kc ks ZZ AF EX M (pc + 2) ls' st σ) (hn : (i : Nat) < M.2.2.1 := by decide) (h : stL i (vR x) ls = ls' := by rfl) : VE g R kc ks ZZ AF EX M pc ls (vR x :: st) σ := by
  subst h
  intro p e s m args below meth c H locs lA C hP hS hl
  exact lv_astore C.1 C.2.1 hd hl hn (stL_ok g i (vR x) ls) (fun l1 h1 => k p e s m args below meth c H locs l1 C hP hS h1)
theorem VE_lstore_n {i : Fin 4} {x : Int64} {ls' : List (Nat × MV)} (hd : decode M.2.1 pc = .ok (.lstore_n i, 1)) (k : VE g R kc ks ZZ AF EX M (pc + 1) ls' st σ) (hn : (i : Nat) + 1 < M.2.2.1 := by decide) (h : stL2 i (vL x) ls = ls' := by rfl) : VE g R kc ks ZZ AF EX M pc ls (vL x :: st) σ := by
  subst h
  intro p e s m args below meth c H locs lA C hP hS hl
  exact lv_lstore_n C.1 C.2.1 hd rfl hl hn (stL2_ok g i (vL x) ls) (fun l1 h1 => k p e s m args below meth c H locs l1 C hP hS h1)
theorem VE_lstore {i : Nat} {x : Int64} {ls' : List (Nat × MV)} (hd : decode M.2.1 pc = .ok (.lstore i, 2)) (k : VE g R kc ks ZZ AF EX M (pc + 2) ls' st σ) (hn : (i : Nat) + 1 < M.2.2.1 := by decide) (h : stL2 i (vL x) ls = ls' := by rfl) : VE g R kc ks ZZ AF EX M pc ls (vL x :: st) σ := by
  subst h
  intro p e s m args below meth c H locs lA C hP hS hl
  exact lv_lstore C.1 C.2.1 hd hl hn (stL2_ok g i (vL x) ls) (fun l1 h1 => k p e s m args below meth c H locs l1 C hP hS h1)
theorem VE_iinc {i : Nat} {n : Int} {x : Int32} (q : Nat) (v : Int32) {ls' : List (Nat × MV)} (hd : decode M.2.1 pc = .ok (.iinc i n, 3)) (k : VE g R kc ks ZZ AF EX M (pc + 3) ls' st σ) (hq : ls[q]? = some (i, vI x) := by rfl) (hv : x + Int32.ofInt n = v := by rfl) (hn : i < M.2.2.1 := by decide) (h : stL i (vI v) ls = ls' := by rfl) : VE g R kc ks ZZ AF EX M pc ls st σ := by
  subst h
  intro p e s m args below meth c H locs lA C hP hS hl
  exact lv_iinc C.1 C.2.1 hd hl (lsV_at hq) hv hn (stL_ok g i (vI v) ls) (fun l1 h1 => k p e s m args below meth c H locs l1 C hP hS h1)
theorem VE_iadd {x y : Int32} (hd : decode M.2.1 pc = .ok (.iadd, 1))  (k : VE g R kc ks ZZ AF EX M (pc + 1) ls (vI (x + y) :: st) σ) : VE g R kc ks ZZ AF EX M pc ls (vI y :: vI x :: st) σ := by
  intro p e s m args below meth c H locs lA C hP hS hl
  exact lv_iadd C.1 C.2.1 hd  (k p e s m args below meth c H locs lA C hP hS hl)
theorem VE_isub {x y : Int32} (hd : decode M.2.1 pc = .ok (.isub, 1))  (k : VE g R kc ks ZZ AF EX M (pc + 1) ls (vI (x - y) :: st) σ) : VE g R kc ks ZZ AF EX M pc ls (vI y :: vI x :: st) σ := by
  intro p e s m args below meth c H locs lA C hP hS hl
  exact lv_isub C.1 C.2.1 hd  (k p e s m args below meth c H locs lA C hP hS hl)
theorem VE_imul {x y : Int32} (hd : decode M.2.1 pc = .ok (.imul, 1))  (k : VE g R kc ks ZZ AF EX M (pc + 1) ls (vI (x * y) :: st) σ) : VE g R kc ks ZZ AF EX M pc ls (vI y :: vI x :: st) σ := by
  intro p e s m args below meth c H locs lA C hP hS hl
  exact lv_imul C.1 C.2.1 hd  (k p e s m args below meth c H locs lA C hP hS hl)
theorem VE_iand {x y : Int32} (hd : decode M.2.1 pc = .ok (.iand, 1))  (k : VE g R kc ks ZZ AF EX M (pc + 1) ls (vI (x &&& y) :: st) σ) : VE g R kc ks ZZ AF EX M pc ls (vI y :: vI x :: st) σ := by
  intro p e s m args below meth c H locs lA C hP hS hl
  exact lv_iand C.1 C.2.1 hd  (k p e s m args below meth c H locs lA C hP hS hl)
theorem VE_ior {x y : Int32} (hd : decode M.2.1 pc = .ok (.ior, 1))  (k : VE g R kc ks ZZ AF EX M (pc + 1) ls (vI (x ||| y) :: st) σ) : VE g R kc ks ZZ AF EX M pc ls (vI y :: vI x :: st) σ := by
  intro p e s m args below meth c H locs lA C hP hS hl
  exact lv_ior C.1 C.2.1 hd  (k p e s m args below meth c H locs lA C hP hS hl)
theorem VE_ishl {x y : Int32} (hd : decode M.2.1 pc = .ok (.ishl, 1))  (k : VE g R kc ks ZZ AF EX M (pc + 1) ls (vI (x <<< (y &&& 31)) :: st) σ) : VE g R kc ks ZZ AF EX M pc ls (vI y :: vI x :: st) σ := by
  intro p e s m args below meth c H locs lA C hP hS hl
  exact lv_ishl C.1 C.2.1 hd  (k p e s m args below meth c H locs lA C hP hS hl)
theorem VE_idiv {x y : Int32} (hd : decode M.2.1 pc = .ok (.idiv, 1)) (hne : ¬ y = 0) (k : VE g R kc ks ZZ AF EX M (pc + 1) ls (vI (x / y) :: st) σ) : VE g R kc ks ZZ AF EX M pc ls (vI y :: vI x :: st) σ := by
  intro p e s m args below meth c H locs lA C hP hS hl
  exact lv_idiv C.1 C.2.1 hd hne (k p e s m args below meth c H locs lA C hP hS hl)
theorem VE_irem {x y : Int32} (hd : decode M.2.1 pc = .ok (.irem, 1)) (hne : ¬ y = 0) (k : VE g R kc ks ZZ AF EX M (pc + 1) ls (vI (x - x / y * y) :: st) σ) : VE g R kc ks ZZ AF EX M pc ls (vI y :: vI x :: st) σ := by
  intro p e s m args below meth c H locs lA C hP hS hl
  exact lv_irem C.1 C.2.1 hd hne (k p e s m args below meth c H locs lA C hP hS hl)
theorem VE_ldiv {x y : Int64} (hd : decode M.2.1 pc = .ok (.ldiv, 1)) (hne : ¬ y = 0) (k : VE g R kc ks ZZ AF EX M (pc + 1) ls (vL (x / y) :: st) σ) : VE g R kc ks ZZ AF EX M pc ls (vL y :: vL x :: st) σ := by
  intro p e s m args below meth c H locs lA C hP hS hl
  exact lv_ldiv C.1 C.2.1 hd hne (k p e s m args below meth c H locs lA C hP hS hl)
theorem VE_lrem {x y : Int64} (hd : decode M.2.1 pc = .ok (.lrem, 1)) (hne : ¬ y = 0) (k : VE g R kc ks ZZ AF EX M (pc + 1) ls (vL (x - x / y * y) :: st) σ) : VE g R kc ks ZZ AF EX M pc ls (vL y :: vL x :: st) σ := by
  intro p e s m args below meth c H locs lA C hP hS hl
  exact lv_lrem C.1 C.2.1 hd hne (k p e s m args below meth c H locs lA C hP hS hl)
theorem VE_lcmp {x y : Int64} (hd : decode M.2.1 pc = .ok (.lcmp, 1))  (k : VE g R kc ks ZZ AF EX M (pc + 1) ls (vI (lg_cmp x y) :: st) σ) : VE g R kc ks ZZ AF EX M pc ls (vL y :: vL x :: st) σ := by
  intro p e s m args below meth c H locs lA C hP hS hl
  exact W.lcmp C.1 C.2.1 hd  (k p e s m args below meth c H locs lA C hP hS hl)
theorem VE_i2l {x : Int32} (hd : decode M.2.1 pc = .ok (.i2l, 1))  (k : VE g R kc ks ZZ AF EX M (pc + 1) ls (vL x.toInt64 :: st) σ) : VE g R kc ks ZZ AF EX M pc ls (vI x :: st) σ := by
  intro p e s m args below meth c H locs lA C hP hS hl
  exact lv_i2l C.1 C.2.1 hd rfl (k p e s m args below meth c H locs lA C hP hS hl)
theorem VE_i2b {x : Int32} (hd : decode M.2.1 pc = .ok (.i2b, 1))  (k : VE g R kc ks ZZ AF EX M (pc + 1) ls (vI x.toInt8.toInt32 :: st) σ) : VE g R kc ks ZZ AF EX M pc ls (vI x :: st) σ := by
  intro p e s m args below meth c H locs lA C hP hS hl
  exact lv_i2b C.1 C.2.1 hd rfl (k p e s m args below meth c H locs lA C hP hS hl)
theorem VE_i2s {x : Int32} (hd : decode M.2.1 pc = .ok (.i2s, 1))  (k : VE g R kc ks ZZ AF EX M (pc + 1) ls (vI x.toInt16.toInt32 :: st) σ) : VE g R kc ks ZZ AF EX M pc ls (vI x :: st) σ := by
  intro p e s m args below meth c H locs lA C hP hS hl
  exact lv_i2s C.1 C.2.1 hd rfl (k p e s m args below meth c H locs lA C hP hS hl)
theorem cat1_I (g : GG) (x : Int32) : (toV g (vI x)).category = 1 := rfl
theorem cat1_R (g : GG) (x : Nat) : (toV g (vR x)).category = 1 := rfl
theorem cat1_of (g : GG) {v : MV} (h : cat2 v = false) : (toV g v).category = 1 := by
  rcases v with x | x | x
  · rfl
  · cases h
  · rfl
theorem VE_dup {a : MV} (hd : decode M.2.1 pc = .ok (.dup, 1)) (h : cat2 a = false := by rfl) (k : VE g R kc ks ZZ AF EX M (pc + 1) ls (a :: a :: st) σ) : VE g R kc ks ZZ AF EX M pc ls (a :: st) σ := by
  intro p e s m args below meth c H locs lA C hP hS hl
  exact lv_dup C.1 C.2.1 hd (cat1_of g h) (k p e s m args below meth c H locs lA C hP hS hl)
theorem VE_dup_x1 {a b : MV} (hd : decode M.2.1 pc = .ok (.dup_x1, 1)) (h : cat2 a = false := by rfl) (h2 : cat2 b = false := by rfl) (k : VE g R kc ks ZZ AF EX M (pc + 1) ls (a :: b :: a :: st) σ) : VE g R kc ks ZZ AF EX M pc ls (a :: b :: st) σ := by
  intro p e s m args below meth c H locs lA C hP hS hl
  exact lv_dup_x1 C.1 C.2.1 hd (cat1_of g h) (cat1_of g h2) (k p e s m args below meth c H locs lA C hP hS hl)
theorem VE_dup2 {a b : MV} (hd : decode M.2.1 pc = .ok (.dup2, 1)) (h : cat2 a = false := by rfl) (h2 : cat2 b = false := by rfl) (k : VE g R kc ks ZZ AF EX M (pc + 1) ls (a :: b :: a :: b :: st) σ) : VE g R kc ks ZZ AF EX M pc ls (a :: b :: st) σ := by
  intro p e s m args below meth c H locs lA C hP hS hl
  exact lv_dup2_11 C.1 C.2.1 hd (cat1_of g h) (cat1_of g h2) (k p e s m args below meth c H locs lA C hP hS hl)
theorem VE_if_eq {x : Int32} {off : Int} (tgt : Nat) (hd : decode M.2.1 pc = .ok (.ifCond .eq off, 3)) (kt : x = 0 → VE g R kc ks ZZ AF EX M tgt ls st σ) (kf : ¬ x = 0 → VE g R kc ks ZZ AF EX M (pc + 3) ls st σ) (ht : (pc : Int) + off = (tgt : Int) := by decide) : VE g R kc ks ZZ AF EX M pc ls (vI x :: st) σ := by
  intro p e s m args below meth c H locs lA C hP hS hl
  exact lv_if_eq C.1 C.2.1 hd ht (fun h => kt h p e s m args below meth c H locs lA C hP hS hl) (fun h => kf h p e s m args below meth c H locs lA C hP hS hl)
theorem VE_icmp_eq {x y : Int32} {off : Int} (tgt : Nat) (hd : decode M.2.1 pc = .ok (.if_icmp .eq off, 3)) (kt : x = y → VE g R kc ks ZZ AF EX M tgt ls st σ) (kf : ¬ x = y → VE g R kc ks ZZ AF EX M (pc + 3) ls st σ) (ht : (pc : Int) + off = (tgt : Int) := by decide) : VE g R kc ks ZZ AF EX M pc ls (vI y :: vI x :: st) σ := by
  intro p e s m args below meth c H locs lA C hP hS hl
  exact lv_icmp_eq C.1 C.2.1 hd ht (fun h => kt h p e s m args below meth c H locs lA C hP hS hl) (fun h => kf h p e s m args below meth c H locs lA C hP hS hl)
theorem VE_if_ne {x : Int32} {off : Int} (tgt : Nat) (hd : decode M.2.1 pc = .ok (.ifCond .ne off, 3)) (kt : ¬ x = 0 → VE g R kc ks ZZ AF EX M tgt ls st σ) (kf : x = 0 → VE g R kc ks ZZ AF EX M (pc + 3) ls st σ) (ht : (pc : Int) + off = (tgt : Int) := by decide) : VE g R kc ks ZZ AF EX M pc ls (vI x :: st) σ := by
  intro p e s m args below meth c H locs lA C hP hS hl
  exact lv_if_ne C.1 C.2.1 hd ht (fun h => kt h p e s m args below meth c H locs lA C hP hS hl) (fun h => kf h p e s m args below meth c H locs lA C hP hS hl)
theorem VE_icmp_ne {x y : Int32} {off : Int} (tgt : Nat) (hd : decode M.2.1 pc = .ok (.if_icmp .ne off, 3)) (kt : ¬ x = y → VE g R kc ks ZZ AF EX M tgt ls st σ) (kf : x = y → VE g R kc ks ZZ AF EX M (pc + 3) ls st σ) (ht : (pc : Int) + off = (tgt : Int) := by decide) : VE g R kc ks ZZ AF EX M pc ls (vI y :: vI x :: st) σ := by
  intro p e s m args below meth c H locs lA C hP hS hl
  exact lv_icmp_ne C.1 C.2.1 hd ht (fun h => kt h p e s m args below meth c H locs lA C hP hS hl) (fun h => kf h p e s m args below meth c H locs lA C hP hS hl)
theorem VE_if_lt {x : Int32} {off : Int} (tgt : Nat) (hd : decode M.2.1 pc = .ok (.ifCond .lt off, 3)) (kt : x < 0 → VE g R kc ks ZZ AF EX M tgt ls st σ) (kf : ¬ x < 0 → VE g R kc ks ZZ AF EX M (pc + 3) ls st σ) (ht : (pc : Int) + off = (tgt : Int) := by decide) : VE g R kc ks ZZ AF EX M pc ls (vI x :: st) σ := by
  intro p e s m args below meth c H locs lA C hP hS hl
  exact lv_if_lt C.1 C.2.1 hd ht (fun h => kt h p e s m args below meth c H locs lA C hP hS hl) (fun h => kf h p e s m args below meth c H locs lA C hP hS hl)
theorem VE_icmp_lt {x y : Int32} {off : Int} (tgt : Nat) (hd : decode M.2.1 pc = .ok (.if_icmp .lt off, 3)) (kt : x < y → VE g R kc ks ZZ AF EX M tgt ls st σ) (kf : ¬ x < y → VE g R kc ks ZZ AF EX M (pc + 3) ls st σ) (ht : (pc : Int) + off = (tgt : Int) := by decide) : VE g R kc ks ZZ AF EX M pc ls (vI y :: vI x :: st) σ := by
  intro p e s m args below meth c H locs lA C hP hS hl
  exact lv_icmp_lt C.1 C.2.1 hd ht (fun h => kt h p e s m args below meth c H locs lA C hP hS hl) (fun h => kf h p e s m args below meth c H locs lA C hP hS hl)
theorem VE_if_ge {x : Int32} {off : Int} (tgt : Nat) (hd : decode M.2.1 pc = .ok (.ifCond .ge off, 3)) (kt : 0 ≤ x → VE g R kc ks ZZ AF EX M tgt ls st σ) (kf : ¬ 0 ≤ x → VE g R kc ks ZZ AF EX M (pc + 3) ls st σ) (ht : (pc : Int) + off = (tgt : Int) := by decide) : VE g R kc ks ZZ AF EX M pc ls (vI x :: st) σ := by
  intro p e s m args below meth c H locs lA C hP hS hl
  exact lv_if_ge C.1 C.2.1 hd ht (fun h => kt h p e s m args below meth c H locs lA C hP hS hl) (fun h => kf h p e s m args below meth c H locs lA C hP hS hl)
theorem VE_icmp_ge {x y : Int32} {off : Int} (tgt : Nat) (hd : decode M.2.1 pc = .ok (.if_icmp .ge off, 3)) (kt : y ≤ x → VE g R kc ks ZZ AF EX M tgt ls st σ) (kf : ¬ y ≤ x → VE g R kc ks ZZ AF EX M (pc + 3) ls st σ) (ht : (pc : Int) + off = (tgt : Int) := by decide) : VE g R kc ks ZZ AF EX M pc ls (vI y :: vI x :: st) σ := by
  intro p e s m args below meth c H locs lA C hP hS hl
  exact lv_icmp_ge C.1 C.2.1 hd ht (fun h => kt h p e s m args below meth c H locs lA C hP hS hl) (fun h => kf h p e s m args below meth c H locs lA C hP hS hl)
theorem VE_if_gt {x : Int32} {off : Int} (tgt : Nat) (hd : decode M.2.1 pc = .ok (.ifCond .gt off, 3)) (kt : 0 < x → VE g R kc ks ZZ AF EX M tgt ls st σ) (kf : ¬ 0 < x → VE g R kc ks ZZ AF EX M (pc + 3) ls st σ) (ht : (pc : Int) + off = (tgt : Int) := by decide) : VE g R kc ks ZZ AF EX M pc ls (vI x :: st) σ := by
  intro p e s m args below meth c H locs lA C hP hS hl
  exact lv_if_gt C.1 C.2.1 hd ht (fun h => kt h p e s m args below meth c H locs lA C hP hS hl) (fun h => kf h p e s m args below meth c H locs lA C hP hS hl)
theorem VE_icmp_gt {x y : Int32} {off : Int} (tgt : Nat) (hd : decode M.2.1 pc = .ok (.if_icmp .gt off, 3)) (kt : y < x → VE g R kc ks ZZ AF EX M tgt ls st σ) (kf : ¬ y < x → VE g R kc ks ZZ AF EX M (pc + 3) ls st σ) (ht : (pc : Int) + off = (tgt : Int) := by decide) : VE g R kc ks ZZ AF EX M pc ls (vI y :: vI x :: st) σ := by
  intro p e s m args below meth c H locs lA C hP hS hl
  exact lv_icmp_gt C.1 C.2.1 hd ht (fun h => kt h p e s m args below meth c H locs lA C hP hS hl) (fun h => kf h p e s m args below meth c H locs lA C hP hS hl)
theorem VE_if_le {x : Int32} {off : Int} (tgt : Nat) (hd : decode M.2.1 pc = .ok (.ifCond .le off, 3)) (kt : x ≤ 0 → VE g R kc ks ZZ AF EX M tgt ls st σ) (kf : ¬ x ≤ 0 → VE g R kc ks ZZ AF EX M (pc + 3) ls st σ) (ht : (pc : Int) + off = (tgt : Int) := by decide) : VE g R kc ks ZZ AF EX M pc ls (vI x :: st) σ := by
  intro p e s m args below meth c H locs lA C hP hS hl
  exact lv_if_le C.1 C.2.1 hd ht (fun h => kt h p e s m args below meth c H locs lA C hP hS hl) (fun h => kf h p e s m args below meth c H locs lA C hP hS hl)
theorem VE_icmp_le {x y : Int32} {off : Int} (tgt : Nat) (hd : decode M.2.1 pc = .ok (.if_icmp .le off, 3)) (kt : x ≤ y → VE g R kc ks ZZ AF EX M tgt ls st σ) (kf : ¬ x ≤ y → VE g R kc ks ZZ AF EX M (pc + 3) ls st σ) (ht : (pc : Int) + off = (tgt : Int) := by decide) : VE g R kc ks ZZ AF EX M pc ls (vI y :: vI x :: st) σ := by
  intro p e s m args below meth c H locs lA C hP hS hl
  exact lv_icmp_le C.1 C.2.1 hd ht (fun h => kt h p e s m args below meth c H locs lA C hP hS hl) (fun h => kf h p e s m args below meth c H locs lA C hP hS hl)
theorem VE_goto {off : Int} (tgt : Nat) (hd : decode M.2.1 pc = .ok (.goto off, 3)) (k : VE g R kc ks ZZ AF EX M tgt ls st σ) (ht : (pc : Int) + off = (tgt : Int) := by decide) : VE g R kc ks ZZ AF EX M pc ls st σ := by
  intro p e s m args below meth c H locs lA C hP hS hl
  exact lv_goto C.1 C.2.1 hd ht (k p e s m args below meth c H locs lA C hP hS hl)
theorem VE_tableOut {dflt lo hi : Int} {offs : Array Int} {len : Nat} {x : Int32} (tgt : Nat) (hd : decode M.2.1 pc = .ok (.tableswitch dflt lo hi offs, len)) (h : x.toInt < lo ∨ hi < x.toInt) (k : VE g R kc ks ZZ AF EX M tgt ls st σ) (ht : (pc : Int) + dflt = (tgt : Int) := by decide) : VE g R kc ks ZZ AF EX M pc ls (vI x :: st) σ := by
  intro p e s m args below meth c H locs lA C hP hS hl
  exact lv_tableOut C.1 C.2.1 hd h ht (k p e s m args below meth c H locs lA C hP hS hl)
theorem VE_tableIn {dflt lo hi : Int} {offs : Array Int} {len : Nat} {x : Int32} {off : Int} (tgt : Nat) (hd : decode M.2.1 pc = .ok (.tableswitch dflt lo hi offs, len)) (h1 : ¬ x.toInt < lo) (h2 : ¬ hi < x.toInt) (ho : offs[(x.toInt - lo).toNat]? = some off) (k : VE g R kc ks ZZ AF EX M tgt ls st σ) (ht : (pc : Int) + off = (tgt : Int) := by decide) : VE g R kc ks ZZ AF EX M pc ls (vI x :: st) σ := by
  intro p e s m args below meth c H locs lA C hP hS hl
  exact lv_tableIn C.1 C.2.1 hd h1 h2 ho ht (k p e s m args below meth c H locs lA C hP hS hl)
theorem VE_lookup {dflt : Int} {ps : Array (Int × Int)} {len : Nat} {x : Int32} {off : Int} (tgt : Nat) (hd : decode M.2.1 pc = .ok (.lookupswitch dflt ps, len)) (hp : (ps.toList.zip (ps.toList.drop 1)).all (fun (a, next) => a.1 < next.1) = true) (ho : Op.lookupswitch.offset ps.toList dflt x.toInt = off) (k : VE g R kc ks ZZ AF EX M tgt ls st σ) (ht : (pc : Int) + off = (tgt : Int) := by decide) : VE g R kc ks ZZ AF EX M pc ls (vI x :: st) σ := by
  intro p e s m args below meth c H locs lA C hP hS hl
  exact lv_lookup C.1 C.2.1 hd hp ho ht (k p e s m args below meth c H locs lA C hP hS hl)
theorem VE_ldc2 {idx : Nat} (v : Int64) (i : Nat) (hd : decode M.2.1 pc = .ok (.ldc2_w idx, 3)) (hw : Wd i (.constantLong M.1.cls idx v)) (k : VE g R kc ks ZZ AF EX M (pc + 3) ls (vL v :: st) σ) : VE g R kc ks ZZ AF EX M pc ls st σ := by
  intro p e s m args below meth c H locs lA C hP hS hl
  exact lv_ldc2 C.1 C.2.1 C.2.2.2.2.1 (C.2.2.2.2.2.1 _ hw.U) hd (k p e s m args below meth c H locs lA C hP hS hl)
/-- the class's own facts -/
theorem cls_ok {ci : Nat} {C : String} {T : u_T} {N : Nat} (h : classes[ci]? = some (C, T, N)) : (∀ w ∈ u_ws C T N, w ∈ tblU) ∧ (∃ ty : Nat → FieldType, ∀ k, k < N → parseFieldDescriptor (T k).2.2.1 = some (ty k)) ∧ (∀ a, a < N → ∀ b, b < N → a ≠ b → (T a).2.1 ≠ (T b).2.1) ∧ (∀ k, k < N → (T k).1 = C) := by
  have up : ∀ {C : String} {T : u_T} {N : Nat}, (∀ w ∈ u_ws C T N, w ∈ lw_tbl) → ∀ w ∈ u_ws C T N, w ∈ tblU := by
    intro C T N h w hw
    refine List.mem_filter.mpr ⟨h w hw, ?_⟩
    obtain ⟨k, -, rfl⟩ := List.mem_map.mp hw
    unfold u_lay
    split <;> rfl
  match ci, h with
  | 0, h => cases h; exact ⟨up inX0, ⟨_, tyX0_ok⟩, nmX0, by decide +kernel⟩
  | 1, h => cases h; exact ⟨up inX1, ⟨_, tyX1_ok⟩, nmX1, by decide +kernel⟩
  | 2, h => cases h; exact ⟨up inX2, ⟨_, tyX2_ok⟩, nmX2, by decide +kernel⟩
  | 3, h => cases h; exact ⟨up inX3, ⟨_, tyX3_ok⟩, nmX3, by decide +kernel⟩
  | 4, h => cases h; exact ⟨up inX4, ⟨_, tyX4_ok⟩, nmX4, by decide +kernel⟩
  | 5, h => cases h; exact ⟨up inX5, ⟨_, tyX5_ok⟩, nmX5, by decide +kernel⟩
  | k + 6, h => simp [classes] at h
/-- the field link idx of the class own: the field k of the class ci -/
def FL (own : String) (idx ci k : Nat) : Prop := ∃ (C : String) (T : u_T) (N i : Nat), classes[ci]? = some (C, T, N) ∧ k < N ∧ (Wd i (.fieldLink own idx C (T k).2.1 (T k).2.2.1) ∨ Wd i (.fieldLinkNest own idx C (T k).2.1 (T k).2.2.1 "FaceGlass"))
theorem VE_getV {idx ci k j : Nat} {r : Option Nat} (hd : decode M.2.1 pc = .ok (.getfield idx, 3)) (hf : FL M.1.cls idx ci k) (ho : ofld j ci k = some r) (v : MV) (hv : toV g v = fvv g r (σ j k)) (kk : VE g R kc ks ZZ AF EX M (pc + 3) ls (v :: st) σ) : VE g R kc ks ZZ AF EX M pc ls (vR j :: st) σ := by
  intro p e s m args below meth c H locs lA C hP hS hl
  obtain ⟨Cn, T, N, i, hc, hk, hw⟩ := hf
  obtain ⟨l, hs, hlk⟩ := ofld_sh ho
  obtain ⟨hj, hcel⟩ := cel_o (g := g) hs (σ j)
  obtain ⟨hin, -, -, hown⟩ := cls_ok hc
  have he : (WS g σ)[j]? = some (g.2.2.1 j, .inr (ci, fvs g l (σ j))) := by rw [WS_at g σ hj, hcel]
  have hK := C.2.2.2.2.2.2.2.1
  have hts := C.2.2.2.2.2.1
  have kk' := kk p e s m args below meth c H locs lA C hP hS hl
  have hv2 : (fvs g l (σ j))[k]? = some (toV g v) := by rw [fvs_at hlk, hv]
  rcases hw with hw | hw
  · exact va_get (D := g.2.1) (tys := tysG g) C.1 C.2.1 hts hin C.2.2.2.2.1 hK hP j he hc k hk (hts _ hw.U) (fun x h => by rw [hown k hk] at h; exact h) hv2 hd kk'
  · exact va_getN (D := g.2.1) (tys := tysG g) C.1 C.2.1 hts hin C.2.2.2.2.1 hK hP j he hc k hk (hts _ hw.U) (fun x h => by rw [hown k hk] at h; exact h) hv2 hd kk'
theorem VE_getI {idx ci k j : Nat} (hd : decode M.2.1 pc = .ok (.getfield idx, 3)) (hf : FL M.1.cls idx ci k) (kk : VE g R kc ks ZZ AF EX M (pc + 3) ls (vI (σ j k) :: st) σ) (ho : ofld j ci k = some none := by rfl) : VE g R kc ks ZZ AF EX M pc ls (vR j :: st) σ := VE_getV hd hf ho (vI (σ j k)) rfl kk
theorem VE_getR {idx ci k j : Nat} (t : Nat) (hd : decode M.2.1 pc = .ok (.getfield idx, 3)) (hf : FL M.1.cls idx ci k) (kk : VE g R kc ks ZZ AF EX M (pc + 3) ls (vR t :: st) σ) (ho : ofld j ci k = some (some t) := by rfl) : VE g R kc ks ZZ AF EX M pc ls (vR j :: st) σ := VE_getV hd hf ho (vR t) rfl kk
theorem VE_put {idx ci k j : Nat} {x : Int32} (hd : decode M.2.1 pc = .ok (.putfield idx, 3)) (hf : FL M.1.cls idx ci k) (kk : VE g R kc ks ZZ AF EX M (pc + 3) ls st (sU σ j k x)) (ho : ofld j ci k = some none := by rfl) (hfin : ((classes[ci]?).map (fun q => ((q.2.1 k).2.2.2, (q.2.1 k).2.2.1))) = some (false, "I") := by rfl) : VE g R kc ks ZZ AF EX M pc ls (vI x :: vR j :: st) σ := by
  intro p e s m args below meth c H locs lA C hP hS hl
  obtain ⟨Cn, T, N, i, hc, hk, hw⟩ := hf
  obtain ⟨l, hs, hlk⟩ := ofld_sh ho
  obtain ⟨hj, hcel⟩ := cel_o (g := g) hs (σ j)
  obtain ⟨hj, hcel2⟩ := cel_o (g := g) hs (upd (σ j) k x)
  obtain ⟨hin, ⟨ty, hty⟩, hnm, hown⟩ := cls_ok hc
  have he : (WS g σ)[j]? = some (g.2.2.1 j, .inr (ci, fvs g l (σ j))) := by rw [WS_at g σ hj, hcel]
  have hK := C.2.2.2.2.2.2.2.1
  have hts := C.2.2.2.2.2.1
  have hAp := C.2.2.2.2.2.2.2.2.1
  rw [hc] at hfin
  have hf1 : (T k).2.2.2 = false := congrArg Prod.fst (Option.some.inj hfin)
  have hf2 : (T k).2.2.1 = "I" := congrArg Prod.snd (Option.some.inj hfin)
  have hll : k < (fvs g l (σ j)).length := (List.getElem?_eq_some_iff.mp (fvs_at (g := g) (f := σ j) hlk)).1
  have hset : (WS g σ).set j (g.2.2.1 j, .inr (ci, (fvs g l (σ j)).set k (.int x))) = WS g (sU σ j k x) := WS_set g σ _ hj _ (by rw [sU_s, hcel2, fvs_set hlk]) (fun i hi => sU_o hi)
  have kk' : ∀ (H1 : Heap) (locs1 : List Loc), va_P g.2.1 classes ((WS g σ).set j (g.2.2.1 j, .inr (ci, (fvs g l (σ j)).set k (.int x)))) H1 → va_D (AF s) ((WS g σ).set j (g.2.2.1 j, .inr (ci, (fvs g l (σ j)).set k (.int x)))) → va_S (AF s) s.heap H1 locs1 → W p g.1 e R s m args below meth c H1 locs1 kc ks (ZZ below args s) (F0 m (pc + 3) lA (stV g st)) := fun H1 locs1 hP1 _ hS1 => kk p e s m args below meth c H1 locs1 lA C (by rw [hset] at hP1; exact hP1) hS1 hl
  rcases hw with hw | hw
  · exact va_put (D := g.2.1) (tys := tysG g) (ty := .int) C.1 C.2.1 hts hin ty hty hnm C.2.2.2.2.1 hK hP (WS_D hAp.1 hAp.2 σ) hS j he hc k hk (hts _ hw.U) (fun x h => by rw [hown k hk] at h; exact h) hf1 (by rw [hf2]; rfl) rfl rfl hll hd kk'
  · exact va_putN (D := g.2.1) (tys := tysG g) (ty := .int) C.1 C.2.1 hts hin ty hty hnm C.2.2.2.2.1 hK hP (WS_D hAp.1 hAp.2 σ) hS j he hc k hk (hts _ hw.U) (fun x h => by rw [hown k hk] at h; exact h) hf1 (by rw [hf2]; rfl) rfl rfl hll hd kk'
/-- int arrays -/
theorem VE_iald {j : Nat} {i : Int32} (hd : decode M.2.1 pc = .ok (.iaload, 1)) (hin : vp_in i (alen j)) (kk : VE g R kc ks ZZ AF EX M (pc + 1) ls (vI (σ j i.toNatClampNeg) :: st) σ) (ha : isA j = true := by rfl) : VE g R kc ks ZZ AF EX M pc ls (vI i :: vR j :: st) σ := by
  intro p e s m args below meth c H locs lA C hP hS hl
  obtain ⟨-, hj, hc⟩ := isA_sh ha
  exact va_iald (D := g.2.1) (tys := tysG g) C.1 C.2.1 C.2.2.2.2.2.2.2.1 hP j 0 (f := σ j) (by rw [WS_at g σ hj, hc]) rfl hin hd (kk p e s m args below meth c H locs lA C hP hS hl)
theorem VE_iast {j : Nat} {i x : Int32} (hd : decode M.2.1 pc = .ok (.iastore, 1)) (hin : vp_in i (alen j)) (kk : VE g R kc ks ZZ AF EX M (pc + 1) ls st (sU σ j i.toNatClampNeg x)) (ha : isA j = true := by rfl) : VE g R kc ks ZZ AF EX M pc ls (vI x :: vI i :: vR j :: st) σ := by
  intro p e s m args below meth c H locs lA C hP hS hl
  obtain ⟨-, hj, hc⟩ := isA_sh ha
  have hAp := C.2.2.2.2.2.2.2.2.1
  have hset : (WS g σ).set j (g.2.2.1 j, .inl (g.2.2.2.1, alen j, .inl (upd (σ j) i.toNatClampNeg x))) = WS g (sU σ j i.toNatClampNeg x) := WS_set g σ _ hj _ (by rw [sU_s, hc]) (fun i hi => sU_o hi)
  exact va_iast (D := g.2.1) (tys := tysG g) C.1 C.2.1 C.2.2.2.2.2.2.2.1 hP (WS_D hAp.1 hAp.2 σ) hS j 0 (f := σ j) (by rw [WS_at g σ hj, hc]) rfl hin hd (fun H1 locs1 hP1 _ hS1 => kk p e s m args below meth c H1 locs1 lA C (by rw [hset] at hP1; exact hP1) hS1 hl)
/-- the row of sheets -/
theorem VE_aald {i : Int32} (hd : decode M.2.1 pc = .ok (.aaload, 1)) (hin : vp_in i 4) (kk : VE g R kc ks ZZ AF EX M (pc + 1) ls (vR (2 + i.toNatClampNeg) :: st) σ) : VE g R kc ks ZZ AF EX M pc ls (vI i :: vR 1 :: st) σ := by
  intro p e s m args below meth c H locs lA C hP hS hl
  exact va_aldq (D := g.2.1) (tys := tysG g) (C := RX3) (f := fun i => some (g.2.2.1 (2 + i))) C.1 C.2.1 C.2.2.2.2.2.2.2.1 hP 1 1 (by rw [WS_at g σ (by decide)]; rfl) rfl hin hd (kk p e s m args below meth c H locs lA C hP hS hl)
end VEI
end
section
/-! returns, calls, a method's beginning -/
section RET
variable {g : GG} {d : Nat} {M : MD} {Q : MV → St → Prop} {pc : Nat} {ls : List (Nat × MV)} {σ : St}
theorem QcM_of {H : Heap} {locs : List Loc} {args : Array Value} {s : State} {rt : Option FieldType} {v : MV} (hP : va_P g.2.1 classes (WS g σ) H) (hS : va_S (AA g) s.heap H locs) (hQ : Q v σ) {o : Option Value} (ho : o = rvM g rt v) : ∀ t : State, t.heap = H → s.WarmedH t.vm → QcM g rt Q args s (.returned o) t :=
  fun t ht _ => ⟨⟨v, σ, by rw [ho], hQ, by rw [ht]; exact hP⟩, hS.F ht⟩
theorem VM_iret {v : Int32} (hd : decode M.2.1 pc = .ok (.ireturn, 1)) (hQ : Q (vI v) σ) (hr : M.2.2.2 = some .int := by rfl) : VM g d M Q pc ls [vI v] σ := by
  intro p e s m args below meth c H locs lA C hP hS hl
  exact W.iret (v := v) C.1 C.2.1 (by rw [C.2.2.1, hr]) (QcM_of hP hS hQ (by rw [hr]; rfl)) hS.2.2 hd C.2.2.2.2.2.2.1
theorem VM_zret {v : Int32} (hd : decode M.2.1 pc = .ok (.ireturn, 1)) (hQ : Q (vI v) σ) (hv : v = 0 ∨ v = 1) (hr : M.2.2.2 = some .boolean := by rfl) : VM g d M Q pc ls [vI v] σ := by
  intro p e s m args below meth c H locs lA C hP hS hl
  exact W.zret (v := v) (ty := .boolean) C.1 C.2.1 (by rw [C.2.2.1, hr]) (by rcases hv with rfl | rfl <;> rfl) (QcM_of hP hS hQ (by rw [hr]; rfl)) hS.2.2 hd C.2.2.2.2.2.2.1
theorem VM_lret {v : Int64} (hd : decode M.2.1 pc = .ok (.lreturn, 1)) (hQ : Q (vL v) σ) (hr : M.2.2.2 = some .long := by rfl) : VM g d M Q pc ls [vL v] σ := by
  intro p e s m args below meth c H locs lA C hP hS hl
  exact W.lret (v := v) C.1 C.2.1 (by rw [C.2.2.1, hr]) (QcM_of hP hS hQ (by rw [hr]; rfl)) hS.2.2 hd C.2.2.2.2.2.2.1
theorem VM_vret (hd : decode M.2.1 pc = .ok (.return_, 1)) (hQ : Q (vI 0) σ) (hr : M.2.2.2 = none := by rfl) : VM g d M Q pc ls [] σ := by
  intro p e s m args below meth c H locs lA C hP hS hl
  exact W.vret C.1 C.2.1 (by rw [C.2.2.1, hr]) (QcM_of (v := vI 0) hP hS hQ (by rw [hr]; rfl)) hS.2.2 hd C.2.2.2.2.2.2.1
end RET
def agL : Nat → List MV → List (Nat × MV)
  | _, [] => []
  | i, v :: vs => (i, v) :: agL (if cat2 v = true then i + 2 else i + 1) vs
theorem agL_ok (g : GG) : ∀ (as : List MV) (i : Nat), lv_args i (as.map (toV g)) = lsV g (agL i as)
  | [], _ => rfl
  | v :: vs, i => by
    show (i, toV g v) :: lv_args _ _ = (i, toV g v) :: lsV g _
    rw [← agL_ok g vs]
    congr 2
    rcases v with x | x | x <;> rfl
def wdL (as : List MV) : Nat := (as.map (fun v => if cat2 v = true then 2 else 1)).sum
theorem wdL_sl (g : GG) : ∀ as : List MV, (lg_sl (as.map (toV g))).length = wdL as
  | [] => rfl
  | v :: vs => by
    have ih := wdL_sl g vs
    have e : lg_sl ((v :: vs).map (toV g)) = lg_sl [toV g v] ++ lg_sl (vs.map (toV g)) := by simp [lg_sl]
    rw [e, List.length_append, ih]
    show _ = (if cat2 v = true then 2 else 1) + wdL vs
    congr 1
    rcases v with x | x | x <;> rfl
theorem wdL_cat (g : GG) : ∀ as : List MV, ((stV g as).map (fun v => v.category)).sum = wdL as
  | [] => rfl
  | v :: vs => by
    have ih := wdL_cat g vs
    show (toV g v).category + ((stV g vs).map (fun v => v.category)).sum = (if cat2 v = true then 2 else 1) + wdL vs
    rw [ih]
    congr 1
    rcases v with x | x | x <;> rfl
/-- a method's contract out of a walk from its beginning -/
theorem ME_of {g : GG} {d : Nat} {M : MD} {as : List MV} {σ : St} {Q : MV → St → Prop} (k : VM g d M Q 0 (agL 0 as) [] σ) (hp : plainName M.1.cls = true := by decide) (hw : Nat.ble (wdL as) M.2.2.1 = true := by rfl) : ME g d M as σ Q := by
  intro hA
  refine Met.ofW (cc := M.2.1) (maxL := M.2.2.1) (ret := M.2.2.2) hp rfl ?_
  intro p e s m args below meth c s₁ B hml hv
  obtain ⟨rfl, hP, hK, hN⟩ := hv
  have hts := atoms_spec (ws := wsM M) B.pre
  have hts2 : ∀ w ∈ tblU, w.before ((as.map (toV g)).toArray) s = true := NW_hts (fun w hw => hts w (List.mem_cons_of_mem _ hw)) hN
  rw [lg_entry_eq]
  have hl := lv_entry (as.map (toV g)) (n := M.2.2.1) (by rw [wdL_sl]; exact Nat.le_of_ble_eq_true hw)
  rw [agL_ok] at hl
  exact k p e s m _ below meth c s.heap [] _ ⟨B.exec, B.bytes, B.returns, hml, findClass_of_methodNamed B.named, hts2, B.notSynchronized, hK, ⟨hA, fun j hj => ⟨j, hj, rfl⟩⟩, trivial⟩ hP va_S.rf hl
theorem FB_M (g : GG) (as : List MV) (σ : St) : FrameBlind (PcM g as σ) := by
  intro a U f mk h
  obtain ⟨h1, h2, h3, h4⟩ := h
  exact ⟨h1, h2, va_K.moved (u := U) (U := U.calling f mk a) (Vm.Alike.refl U.vm) h3, NW_same (u := U) (U := U.calling f mk a) rfl h4⟩
theorem Pc_M {g : GG} {as : List MV} {σ : St} {H : Heap} {s : State} {args : Array Value} (hP : va_P g.2.1 classes (WS g σ) H) (hK : va_K g.2.1 classes (tysG g) s) (hts : ∀ w ∈ tblU, w.before args s = true) : ∀ U : State, U.heap = H → s.WarmedH U.vm → PcM g as σ (as.map (toV g)).toArray U :=
  fun U hU hW => ⟨rfl, by rw [hU]; exact hP, va_K.moved hW.alike hK, NW_warm hW hts⟩
theorem callG {g : GG} {p : Program} {e : Env} {R : Room} {s : State} {m : MethodId} {args : Array Value} {below : List Frame} {meth : Method} {c : Code} {H H0 : Heap} {locs : List Loc} {kc ks : Nat} {Z : State → Prop} {pc : Nat} {ls : Array Slot} {st0 rest : List Value} {rt : Option FieldType} {Q : MV → St → Prop} {a : Array Value} {A0 : Nat → Prop}
    (hr : va_Run p g.1 e R s m args below meth c H locs kc ks 0 0 (F0 m pc ls st0) rest (QcM g rt Q a) (AA g)) (hS : va_S A0 H0 H locs) (hA : ∀ q, AA g q → A0 q)
    (kk : ∀ (r : MV) (σ' : St) (H1 : Heap) (locs1 : List Loc), Q r σ' → va_P g.2.1 classes (WS g σ') H1 → va_S A0 H0 H1 locs1 → W p g.1 e R s m args below meth c H1 locs1 kc ks Z (F0 m (pc + 3) ls ((rvM g rt r).toList ++ rest))) : W p g.1 e R s m args below meth c H locs kc ks Z (F0 m pc ls st0) := by
  intro T hT X
  obtain ⟨v, st₀, t, T', L, h0, X', hL, e1, e2, ⟨⟨r, σ', hv, hq, hp⟩, hz, hk⟩, st⟩ := hr T hT X
  cases hv
  rw [h0] at hz hk
  obtain ⟨t2, a1, b1⟩ := kk r σ' T'.heap (locs ++ L) hq (by rw [e1]; exact hp)
    ⟨Nat.le_trans hS.1 (by rw [e1]; exact hz), fun q h1 h2 => by rw [e1, hk q (Nat.lt_of_lt_of_le h1 hS.1) (fun z => h2 (hA q z))]; exact hS.2.1 q h1 h2, fun q hq => by
      rcases List.mem_append.mp hq with h | h
      · exact hS.2.2 q h
      · exact hA _ (hL q h)⟩ T' rfl X'
  exact ⟨t2, st t2 a1, b1⟩
/-- what the tables hold of a method that is called -/
def MC (Z : MD) (n : Nat) : Prop := ∃ i4 i5 : Nat, Wd i4 (.initialized Z.1.cls) ∧ Wd i5 (.code Z.1 Z.2.1 Z.2.2.1 Z.2.2.2) ∧ (Z.1.cls ≠ "java/lang/invoke/MethodHandle" ∧ Z.1.cls ≠ "java/lang/invoke/VarHandle" ∧ (parseMethodDescriptor Z.1.desc).map (fun d => d.parameters.length) = some n) ∧ Z.2.2.1 ≤ 20
def MV1 (own : String) (idx : Nat) (Z : MD) (n : Nat) : Prop := ∃ i1 i2 i3 : Nat, Wd i1 (.methodLink own idx Z.1) ∧ Wd i2 (.instanceMethod Z.1) ∧ Wd i3 (.selects Z.1.cls Z.1 Z.1) ∧ MC Z n
def MS1 (own : String) (idx : Nat) (Z : MD) (n : Nat) : Prop := ∃ i1 i2 : Nat, (Wd i1 (.methodLink own idx Z.1) ∨ Wd i1 (.methodLinkNest own idx Z.1 "FaceGlass")) ∧ Wd i2 (.static Z.1) ∧ MC Z n
theorem wsM_good {Z : MD} {i : Nat} (h : Wd i (.code Z.1 Z.2.1 Z.2.2.1 Z.2.2.2)) : GoodIn tblU (wsM Z) := by
  intro w hw
  rcases List.mem_cons.mp hw with rfl | hw
  · exact ⟨h.U, good_of_word rfl⟩
  · exact ⟨tblG_U w hw, good_of_word (List.mem_filter.mp hw).2⟩
def ocl (j : Nat) : Option String := match shp j with
  | .inr q => (classes[q.1]?).map (fun r => r.1)
  | .inl _ => none
def rl (rt : Option FieldType) (r : MV) : List MV := match rt with
  | none => []
  | some _ => [r]
theorem rl_ok (g : GG) (rt : Option FieldType) (r : MV) (st : List MV) : (rvM g rt r).toList ++ stV g st = stV g (rl rt r ++ st) := by
  cases rt <;> rfl
def rok (R : Room) (kc ks d : Nat) : Prop := d + 1 ≤ R.frames ∧ 40 * d + 40 ≤ R.locals ∧ kc ≤ R.cells ∧ ks ≤ R.slots
theorem rok_D (d : Nat) : rok (rmD (d + 1)) 0 0 d := ⟨Nat.le_refl _, by show 40 * d + 40 ≤ 40 * (d + 1); omega, Nat.le_refl _, Nat.le_refl _⟩
section CALL
variable {g : GG} {R : Room} {kc ks : Nat} {ZZ : List Frame → Array Value → State → State → Prop} {AF : State → Nat → Prop} {EX : State → Prop} {M : MD} {pc : Nat} {ls : List (Nat × MV)} {st st0 : List MV} {σ : St}
theorem recvM {j : Nat} {C : String} {s : State} {H : Heap} (hj : ocl j = some C) (hK : va_K g.2.1 classes (tysG g) s) (hP : va_P g.2.1 classes (WS g σ) H) : ∃ cell : Cell, H[g.2.2.1 j]? = some cell ∧ cell.vm.isStatics = false ∧ s.vm.findClass C = some cell.cls := by
  unfold ocl at hj
  cases hs : shp j with
  | inl n => rw [hs] at hj; cases hj
  | inr q =>
    rw [hs] at hj
    obtain ⟨ci, l⟩ := q
    dsimp only at hj
    cases hc : classes[ci]? with
    | none => rw [hc] at hj; cases hj
    | some r =>
      rw [hc] at hj
      cases hj
      obtain ⟨hl, hcel⟩ := cel_o (g := g) hs (σ j)
      exact va_recv hK hP hc (q0 := j) (fs := fvs g l (σ j)) (by rw [WS_at g σ hl, hcel])
theorem VE_callV {idx d j n : Nat} {Z : MD} (as : List MV) (hd : decode M.2.1 pc = .ok (.invokevirtual idx, 3)) (ml : MV1 M.1.cls idx Z n) (hM : ME g d Z (vR j :: as) σ (fun r σ' => VE g R kc ks ZZ AF EX M (pc + 3) ls (rl Z.2.2.2 r ++ st) σ')) (hR : rok R kc ks d) (hj : ocl j = some Z.1.cls := by rfl) (hn : as.length = n := by rfl) (hst : as.reverse ++ vR j :: st = st0 := by rfl) (hw : Nat.ble (wdL st) 8 = true := by rfl) : VE g R kc ks ZZ AF EX M pc ls st0 σ := by
  subst hst
  intro p e s m args below meth c H locs lA C hP hS hl
  obtain ⟨i1, i2, i3, w1, w2, w3, i4, i5, w4, w5, hdd, hmx⟩ := ml
  have hts := C.2.2.2.2.2.1
  have hK := C.2.2.2.2.2.2.2.1
  have hAp := C.2.2.2.2.2.2.2.2.1
  have hG : GoodIn tblU (wsV M.1.cls idx Z.1.cls Z.1 (wsM Z)) := by
    intro w hw
    rcases List.mem_append.mp hw with h | h
    · simp only [List.mem_cons, List.not_mem_nil, or_false] at h
      rcases h with rfl | rfl | rfl | rfl
      · exact ⟨w1.U, good_of_word rfl⟩
      · exact ⟨w2.U, good_of_word rfl⟩
      · exact ⟨w3.U, good_of_word rfl⟩
      · exact ⟨w4.U, good_of_word rfl⟩
    · exact wsM_good w5 w h
  refine callG (va_runV (As := stV g as) (rest := stV g st) ⟨C.1, C.2.1, C.2.2.2.1, C.2.2.2.2.1, hts⟩ (hM hAp.1) (cwV n hts hG rfl rfl rfl ⟨rfl, hdd⟩ ⟨hR.1, ?_⟩) ⟨FB_M g _ σ, recvM hj hK hP, fun U hU hW => Pc_M hP hK hts U hU hW⟩ rfl (by rw [List.length_map]; exact hn) hl.1 (by simp [stV, toV]) (lv_room (by rw [wdL_cat]; exact Nat.le_of_ble_eq_true hw)) hd ⟨hR.2.2.1, hR.2.2.2⟩) hS (fun q hq => ?_) (fun r σ' H1 locs1 hk hP1 hS1 => ?_)
  · show 8 + (Z.2.2.1 + 11) + 40 * d ≤ R.locals
    have := hR.2.1
    omega
  · obtain ⟨j, hj, rfl⟩ := hq
    exact hAp.2 j hj
  · rw [rl_ok]
    exact hk p e s m args below meth c H1 locs1 lA C hP1 hS1 hl
theorem VE_callS {idx d n : Nat} {Z : MD} (as : List MV) (hd : decode M.2.1 pc = .ok (.invokestatic idx, 3)) (ml : MS1 M.1.cls idx Z n) (hM : ME g d Z as σ (fun r σ' => VE g R kc ks ZZ AF EX M (pc + 3) ls (rl Z.2.2.2 r ++ st) σ')) (hR : rok R kc ks d) (hn : as.length = n := by rfl) (hst : as.reverse ++ st = st0 := by rfl) (hw : Nat.ble (wdL st) 8 = true := by rfl) : VE g R kc ks ZZ AF EX M pc ls st0 σ := by
  subst hst
  intro p e s m args below meth c H locs lA C hP hS hl
  obtain ⟨i1, i2, w1, w2, i4, i5, w4, w5, hdd, hmx⟩ := ml
  have hts := C.2.2.2.2.2.1
  have hK := C.2.2.2.2.2.2.2.1
  have hAp := C.2.2.2.2.2.2.2.2.1
  have hlo : 8 + (Z.2.2.1 + 11) + (rmD d).locals ≤ R.locals := by
    show 8 + (Z.2.2.1 + 11) + 40 * d ≤ R.locals
    have := hR.2.1
    omega
  have fin : ∀ (r : MV) (σ' : St) (H1 : Heap) (locs1 : List Loc), VE g R kc ks ZZ AF EX M (pc + 3) ls (rl Z.2.2.2 r ++ st) σ' → va_P g.2.1 classes (WS g σ') H1 → va_S (AF s) s.heap H1 locs1 → W p g.1 e R s m args below meth c H1 locs1 kc ks (ZZ below args s) (F0 m (pc + 3) lA ((rvM g Z.2.2.2 r).toList ++ stV g st)) := by
    intro r σ' H1 locs1 hk hP1 hS1
    rw [rl_ok]
    exact hk p e s m args below meth c H1 locs1 lA C hP1 hS1 hl
  have hAF : ∀ q, AA g q → AF s q := by
    intro q hq
    obtain ⟨j, hj, rfl⟩ := hq
    exact hAp.2 j hj
  have hstk : stV g (as.reverse ++ st) = (stV g as).reverse ++ stV g st := by simp [stV]
  rcases w1 with w1 | w1
  · exact callG (va_runS (As := stV g as) (rest := stV g st) ⟨C.1, C.2.1, C.2.2.2.1, C.2.2.2.2.1, hts⟩ (hM hAp.1) ⟨callB_of n hts (wsM_good w5) rfl rfl rfl (hts _ w4.U) (hts _ w1.U) hdd ⟨hR.1, hlo⟩, hts _ w2.U⟩ ⟨FB_M g _ σ, fun U hU hW => Pc_M hP hK hts U hU hW⟩ rfl (by rw [List.length_map]; exact hn) hl.1 hstk (lv_room (by rw [wdL_cat]; exact Nat.le_of_ble_eq_true hw)) hd ⟨hR.2.2.1, hR.2.2.2⟩) hS hAF fin
  · exact callG (va_runSN (As := stV g as) (rest := stV g st) ⟨C.1, C.2.1, C.2.2.2.1, C.2.2.2.2.1, hts⟩ (hM hAp.1) ⟨va_cnB n hts (wsM_good w5) rfl rfl rfl (va_Nw.of rfl (hts _ w1.U)) (hts _ w4.U) hdd ⟨hR.1, hlo⟩, hts _ w2.U, trivial⟩ ⟨FB_M g _ σ, fun U hU hW => Pc_M hP hK hts U hU hW⟩ rfl (by rw [List.length_map]; exact hn) hl.1 hstk (lv_room (by rw [wdL_cat]; exact Nat.le_of_ble_eq_true hw)) hd ⟨hR.2.2.1, hR.2.2.2⟩) hS hAF fin
end CALL
end
section
/-! contracts by the kind of answer; sheets; switches; arraycopy -/
theorem ME_mono {g : GG} {d : Nat} {M : MD} {as : List MV} {σ : St} {Q Q' : MV → St → Prop} (h : ME g d M as σ Q) (hQ : ∀ r σ', Q r σ' → Q' r σ') : ME g d M as σ Q' := by
  intro hA p e ha hc hk s m args below hf happ hp hK
  obtain ⟨n, o, h1, h2, h3, ⟨⟨r, σ', e1, e2, e3⟩, h5⟩, h6⟩ := h hA p e ha hc hk s m args below hf happ hp hK
  exact ⟨n, o, h1, h2, h3, ⟨⟨r, σ', e1, hQ r σ' e2, e3⟩, h5⟩, h6⟩
def qI (F : Int32 → St → Prop) : MV → St → Prop := fun r σ => match r with
  | .inl x => F x σ
  | _ => False
def qL (F : Int64 → St → Prop) : MV → St → Prop := fun r σ => match r with
  | .inr (.inl x) => F x σ
  | _ => False
def qV (F : St → Prop) : MV → St → Prop := fun _ σ => F σ
section TCALL
variable {g : GG} {R : Room} {kc ks : Nat} {ZZ : List Frame → Array Value → State → State → Prop} {AF : State → Nat → Prop} {EX : State → Prop} {M : MD} {pc : Nat} {ls : List (Nat × MV)} {st st0 : List MV} {σ : St}
theorem VE_cVi {idx d j n : Nat} {Z : MD} {F : Int32 → St → Prop} (as : List MV) (hd : decode M.2.1 pc = .ok (.invokevirtual idx, 3)) (ml : MV1 M.1.cls idx Z n) (hM : ME g d Z (vR j :: as) σ (qI F)) (kk : ∀ x σ', F x σ' → VE g R kc ks ZZ AF EX M (pc + 3) ls (vI x :: st) σ') (hR : rok R kc ks d) (hz : ∀ r, rl Z.2.2.2 r = [r] := by exact fun _ => rfl) (hj : ocl j = some Z.1.cls := by rfl) (hn : as.length = n := by rfl) (hst : as.reverse ++ vR j :: st = st0 := by rfl) (hw : Nat.ble (wdL st) 8 = true := by rfl) : VE g R kc ks ZZ AF EX M pc ls st0 σ := by
  refine VE_callV as hd ml (ME_mono hM (fun r σ' hq => ?_)) hR hj hn hst hw
  rw [hz r]
  rcases r with x | x | x
  · exact kk x σ' hq
  · exact hq.elim
  · exact hq.elim
theorem VE_cVl {idx d j n : Nat} {Z : MD} {F : Int64 → St → Prop} (as : List MV) (hd : decode M.2.1 pc = .ok (.invokevirtual idx, 3)) (ml : MV1 M.1.cls idx Z n) (hM : ME g d Z (vR j :: as) σ (qL F)) (kk : ∀ x σ', F x σ' → VE g R kc ks ZZ AF EX M (pc + 3) ls (vL x :: st) σ') (hR : rok R kc ks d) (hz : ∀ r, rl Z.2.2.2 r = [r] := by exact fun _ => rfl) (hj : ocl j = some Z.1.cls := by rfl) (hn : as.length = n := by rfl) (hst : as.reverse ++ vR j :: st = st0 := by rfl) (hw : Nat.ble (wdL st) 8 = true := by rfl) : VE g R kc ks ZZ AF EX M pc ls st0 σ := by
  refine VE_callV as hd ml (ME_mono hM (fun r σ' hq => ?_)) hR hj hn hst hw
  rw [hz r]
  rcases r with x | x | x
  · exact hq.elim
  · exact kk x σ' hq
  · exact hq.elim
theorem VE_cVv {idx d j n : Nat} {Z : MD} {F : St → Prop} (as : List MV) (hd : decode M.2.1 pc = .ok (.invokevirtual idx, 3)) (ml : MV1 M.1.cls idx Z n) (hM : ME g d Z (vR j :: as) σ (qV F)) (kk : ∀ σ', F σ' → VE g R kc ks ZZ AF EX M (pc + 3) ls st σ') (hR : rok R kc ks d) (hz : ∀ r, rl Z.2.2.2 r = [] := by exact fun _ => rfl) (hj : ocl j = some Z.1.cls := by rfl) (hn : as.length = n := by rfl) (hst : as.reverse ++ vR j :: st = st0 := by rfl) (hw : Nat.ble (wdL st) 8 = true := by rfl) : VE g R kc ks ZZ AF EX M pc ls st0 σ := by
  refine VE_callV as hd ml (ME_mono hM (fun r σ' hq => ?_)) hR hj hn hst hw
  rw [hz r]
  exact kk σ' hq
theorem VE_cSi {idx d n : Nat} {Z : MD} {F : Int32 → St → Prop} (as : List MV) (hd : decode M.2.1 pc = .ok (.invokestatic idx, 3)) (ml : MS1 M.1.cls idx Z n) (hM : ME g d Z as σ (qI F)) (kk : ∀ x σ', F x σ' → VE g R kc ks ZZ AF EX M (pc + 3) ls (vI x :: st) σ') (hR : rok R kc ks d) (hz : ∀ r, rl Z.2.2.2 r = [r] := by exact fun _ => rfl) (hn : as.length = n := by rfl) (hst : as.reverse ++ st = st0 := by rfl) (hw : Nat.ble (wdL st) 8 = true := by rfl) : VE g R kc ks ZZ AF EX M pc ls st0 σ := by
  refine VE_callS as hd ml (ME_mono hM (fun r σ' hq => ?_)) hR hn hst hw
  rw [hz r]
  rcases r with x | x | x
  · exact kk x σ' hq
  · exact hq.elim
  · exact hq.elim
theorem VE_cSl {idx d n : Nat} {Z : MD} {F : Int64 → St → Prop} (as : List MV) (hd : decode M.2.1 pc = .ok (.invokestatic idx, 3)) (ml : MS1 M.1.cls idx Z n) (hM : ME g d Z as σ (qL F)) (kk : ∀ x σ', F x σ' → VE g R kc ks ZZ AF EX M (pc + 3) ls (vL x :: st) σ') (hR : rok R kc ks d) (hz : ∀ r, rl Z.2.2.2 r = [r] := by exact fun _ => rfl) (hn : as.length = n := by rfl) (hst : as.reverse ++ st = st0 := by rfl) (hw : Nat.ble (wdL st) 8 = true := by rfl) : VE g R kc ks ZZ AF EX M pc ls st0 σ := by
  refine VE_callS as hd ml (ME_mono hM (fun r σ' hq => ?_)) hR hn hst hw
  rw [hz r]
  rcases r with x | x | x
  · exact hq.elim
  · exact kk x σ' hq
  · exact hq.elim
end TCALL
theorem vin_lt {i : Int32} {n : Nat} (h : vp_in i n) : i.toNatClampNeg < n := Nat.not_le.mp fun q => h (Or.inr q)
section SHEETS
variable {k : Nat} (hk : k < 4)
theorem k4 {P : Nat → Prop} (hk : k < 4) (h0 : P 0) (h1 : P 1) (h2 : P 2) (h3 : P 3) : P k := by
  match k, hk with
  | 0, _ => exact h0
  | 1, _ => exact h1
  | 2, _ => exact h2
  | 3, _ => exact h3
  | n + 4, h => omega
theorem sh_f0 (hk : k < 4) : ofld (2 + k) 3 0 = some (some (6 + k)) := k4 (P := fun k => ofld (2 + k) 3 0 = some (some (6 + k))) hk rfl rfl rfl rfl
theorem sh_f1 (hk : k < 4) : ofld (2 + k) 3 1 = some none := k4 (P := fun k => ofld (2 + k) 3 1 = some none) hk rfl rfl rfl rfl
theorem sh_f2 (hk : k < 4) : ofld (2 + k) 3 2 = some none := k4 (P := fun k => ofld (2 + k) 3 2 = some none) hk rfl rfl rfl rfl
theorem sh_A (hk : k < 4) : isA (6 + k) = true := k4 (P := fun k => isA (6 + k) = true) hk rfl rfl rfl rfl
theorem sh_len (hk : k < 4) : alen (6 + k) = 60 := k4 (P := fun k => alen (6 + k) = 60) hk rfl rfl rfl rfl
theorem sh_in (hk : k < 4) {i : Int32} (h : vp_in i 60) : vp_in i (alen (6 + k)) := by rw [sh_len hk]; exact h
theorem sh_ocl (hk : k < 4) : ocl (2 + k) = some RX3 := k4 (P := fun k => ocl (2 + k) = some RX3) hk rfl rfl rfl rfl
end SHEETS
theorem i32_ne {x v : Int32} (h : ¬ x = v) : ¬ x.toInt = v.toInt := fun q => h (Int32.toInt_inj.mp q)
theorem VE_copy {g : GG} {R : Room} {kc ks : Nat} {ZZ : List Frame → Array Value → State → State → Prop} {AF : State → Nat → Prop} {EX : State → Prop} {M : MD} {pc : Nat} {ls : List (Nat × MV)} {st : List MV} {σ : St} {idx j0 j1 i1 i2 i3 i4 : Nat} {sp dp n : Int32} (hd : decode M.2.1 pc = .ok (.invokestatic idx, 3)) (w1 : Wd i1 (.methodLink M.1.cls idx arraycopyName)) (w2 : Wd i2 (.native arraycopyName)) (w3 : Wd i3 (.static arraycopyName)) (w4 : Wd i4 (.initialized "java/lang/System"))
    (h1 : ¬ sp < 0) (h2 : ¬ dp < 0) (h3 : ¬ n < 0) (h4 : sp.toNatClampNeg + n.toNatClampNeg ≤ alen j0) (h5 : dp.toNatClampNeg + n.toNatClampNeg ≤ alen j1) (ha0 : isA j0 = true) (ha1 : isA j1 = true) (hR : 1 ≤ R.frames ∧ 40 ≤ R.locals) (hw : Nat.ble (wdL st) 8 = true)
    (kk : VE g R kc ks ZZ AF EX M (pc + 3) ls st (fun a => if a = j1 then va_cpy (σ j0) (σ j1) sp.toNatClampNeg dp.toNatClampNeg n.toNatClampNeg else σ a)) : VE g R kc ks ZZ AF EX M pc ls (vI n :: vI dp :: vR j1 :: vI sp :: vR j0 :: st) σ := by
  intro p e s m args below meth c H locs lA C hP hS hl
  obtain ⟨-, hj0, hc0⟩ := isA_sh ha0
  obtain ⟨-, hj1, hc1⟩ := isA_sh ha1
  have hts := C.2.2.2.2.2.1
  have hK := C.2.2.2.2.2.2.2.1
  have hAp := C.2.2.2.2.2.2.2.2.1
  have hset : (WS g σ).set j1 (g.2.2.1 j1, .inl (g.2.2.2.1, alen j1, .inl (va_cpy (σ j0) (σ j1) sp.toNatClampNeg dp.toNatClampNeg n.toNatClampNeg))) = WS g (fun a => if a = j1 then va_cpy (σ j0) (σ j1) sp.toNatClampNeg dp.toNatClampNeg n.toNatClampNeg else σ a) := WS_set g σ _ hj1 _ (by rw [hc1, if_pos rfl]) (fun i hi => if_neg hi)
  refine va_copyi (D := g.2.1) (tys := tysG g) (ty := .int) C.1 C.2.1 (C.2.2.2.1.trans hl.1.symm) C.2.2.2.2.1 (hts _ w1.U) (hts _ w2.U) (hts _ w3.U) (hts _ w4.U) hK hP (WS_D hAp.1 hAp.2 σ) hS j0 j1 0 0 (f := σ j0) (g := σ j1) (by rw [WS_at g σ hj0, hc0]) (by rw [WS_at g σ hj1, hc1]) rfl rfl rfl h1 h2 h3 h4 h5 (fun _ _ => rfl) hR.1 ?_ hd (fun H1 locs1 hP1 _ hS1 => kk p e s m args below meth c H1 locs1 lA C (by rw [hset] at hP1; exact hP1) hS1 hl)
  have hw2 := Nat.le_of_ble_eq_true hw
  rw [wdL_cat]
  have : nativeFrameWords "java/lang/System" "arraycopy" 5 + 11 ≤ 32 := by decide +kernel
  have := hR.2
  omega
section MINMAX
variable {g : GG} {R : Room} {kc ks : Nat} {ZZ : List Frame → Array Value → State → State → Prop} {AF : State → Nat → Prop} {EX : State → Prop} {M : MD} {pc : Nat} {ls : List (Nat × MV)} {st : List MV} {σ : St}
theorem VE_min {idx i1 i2 i3 i4 : Nat} {x y : Int32} (hd : decode M.2.1 pc = .ok (.invokestatic idx, 3)) (w1 : Wd i1 (.methodLink M.1.cls idx Lib.Math.min.name)) (w2 : Wd i2 (.static Lib.Math.min.name)) (w3 : Wd i3 (.initialized "java/lang/Math")) (w4 : Wd i4 (.code Lib.Math.min.name Lib.Math.min.code 2 (some .int))) (hR : 1 ≤ R.frames ∧ 40 ≤ R.locals ∧ kc ≤ R.cells ∧ ks ≤ R.slots) (hw : Nat.ble (wdL st) 8 = true) (kk : VE g R kc ks ZZ AF EX M (pc + 3) ls (vI (if y < x then y else x) :: st) σ) : VE g R kc ks ZZ AF EX M pc ls (vI y :: vI x :: st) σ := by
  intro p e s m args below meth c H locs lA C hP hS hl
  have hts := C.2.2.2.2.2.1
  have hw2 := Nat.le_of_ble_eq_true hw
  have h9 := hR.2.1
  exact va_mmin C.1 C.2.1 (C.2.2.2.1.trans hl.1.symm) C.2.2.2.2.1 (hts _ w1.U) (hts _ w2.U) (hts _ w3.U) (hts _ w4.U) hR.1 (by rw [wdL_cat]; omega) hR.2.2.1 hR.2.2.2 hd (kk p e s m args below meth c H locs lA C hP hS hl)
theorem VE_max {idx i1 i2 i3 i4 : Nat} {x y : Int32} (hd : decode M.2.1 pc = .ok (.invokestatic idx, 3)) (w1 : Wd i1 (.methodLink M.1.cls idx Lib.Math.max.name)) (w2 : Wd i2 (.static Lib.Math.max.name)) (w3 : Wd i3 (.initialized "java/lang/Math")) (w4 : Wd i4 (.code Lib.Math.max.name Lib.Math.max.code 2 (some .int))) (hR : 1 ≤ R.frames ∧ 40 ≤ R.locals ∧ kc ≤ R.cells ∧ ks ≤ R.slots) (hw : Nat.ble (wdL st) 8 = true) (kk : VE g R kc ks ZZ AF EX M (pc + 3) ls (vI (if x < y then y else x) :: st) σ) : VE g R kc ks ZZ AF EX M pc ls (vI y :: vI x :: st) σ := by
  intro p e s m args below meth c H locs lA C hP hS hl
  have hts := C.2.2.2.2.2.1
  have hw2 := Nat.le_of_ble_eq_true hw
  have h9 := hR.2.1
  exact va_mmax C.1 C.2.1 (C.2.2.2.1.trans hl.1.symm) C.2.2.2.2.1 (hts _ w1.U) (hts _ w2.U) (hts _ w3.U) (hts _ w4.U) hR.1 (by rw [wdL_cat]; omega) hR.2.2.1 hR.2.2.2 hd (kk p e s m args below meth c H locs lA C hP hS hl)
end MINMAX
end
section
abbrev M_X0_has : MD := (yX0_has, cX0_has, 2, some .boolean)
abbrev M_X0_gather : MD := (yX0_gather, cX0_gather, 6, none)
abbrev M_X1_open : MD := (yX1_open, cX1_open, 3, none)
abbrev M_X1_receives : MD := (yX1_receives, cX1_receives, 2, some .boolean)
abbrev M_X1_takesBack : MD := (yX1_takesBack, cX1_takesBack, 2, none)
abbrev M_X1_changePlaces : MD := (yX1_changePlaces, cX1_changePlaces, 3, none)
abbrev M_X1_ownWearers : MD := (yX1_ownWearers, cX1_ownWearers, 3, some .int)
abbrev M_X1_visitsHome : MD := (yX1_visitsHome, cX1_visitsHome, 3, some .int)
abbrev M_X1_firstAstray : MD := (yX1_firstAstray, cX1_firstAstray, 2, some .int)
abbrev M_X1_mostTaken : MD := (yX1_mostTaken, cX1_mostTaken, 3, some .int)
abbrev M_X1_fooling : MD := (yX1_fooling, cX1_fooling, 5, some .int)
abbrev M_X2_add : MD := (yX2_add, cX2_add, 4, some .int)
abbrev M_X2_reachBeyond : MD := (yX2_reachBeyond, cX2_reachBeyond, 3, some .boolean)
abbrev M_X2_areSo : MD := (yX2_areSo, cX2_areSo, 4, some .boolean)
abbrev M_X3_isNothing : MD := (yX3_isNothing, cX3_isNothing, 1, some .boolean)
abbrev M_X3_renew : MD := (yX3_renew, cX3_renew, 4, none)
abbrev M_X3_hasCells : MD := (yX3_hasCells, cX3_hasCells, 3, some .boolean)
abbrev M_X3_faultOfCells : MD := (yX3_faultOfCells, cX3_faultOfCells, 4, some .int)
abbrev M_X4_court : MD := (yX4_court, cX4_court, 7, some .int)
abbrev M_X4_ofHead : MD := (yX4_ofHead, cX4_ofHead, 3, some .int)
abbrev M_X4_wear : MD := (yX4_wear, cX4_wear, 4, some .int)
abbrev M_X4_knows : MD := (yX4_knows, cX4_knows, 4, some .int)
abbrev M_X4_visits : MD := (yX4_visits, cX4_visits, 8, some .int)
abbrev M_X4_plan : MD := (yX4_plan, cX4_plan, 4, some .int)
abbrev M_X4_reading : MD := (yX4_reading, cX4_reading, 4, some .int)
abbrev M_X4_back : MD := (yX4_back, cX4_back, 2, some .int)
abbrev M_X4_who : MD := (yX4_who, cX4_who, 9, some .int)
abbrev M_X4_kinds : MD := (yX4_kinds, cX4_kinds, 9, some .int)
abbrev M_X4_wears : MD := (yX4_wears, cX4_wears, 9, some .int)
abbrev M_X4_odds : MD := (yX4_odds, cX4_odds, 8, some .long)
abbrev M_X4_sheet : MD := (yX4_sheet, cX4_sheet, 5, some .int)
abbrev M_X4_lose : MD := (yX4_lose, cX4_lose, 3, some .int)
abbrev M_X4_put : MD := (yX4_put, cX4_put, 5, some .int)
abbrev M_X4_cell : MD := (yX4_cell, cX4_cell, 5, some .long)
abbrev M_X4_copy : MD := (yX4_copy, cX4_copy, 7, some .int)
abbrev M_X4_tell : MD := (yX4_tell, cX4_tell, 2, some .int)
abbrev M_X4_greet : MD := (yX4_greet, cX4_greet, 2, some .int)
abbrev M_X4_as : MD := (yX4_as, cX4_as, 3, some .int)
abbrev M_X4_trace : MD := (yX4_trace, cX4_trace, 1, some .int)
abbrev M_X4_fault : MD := (yX4_fault, cX4_fault, 1, some .int)
abbrev M_X4_many : MD := (yX4_many, cX4_many, 2, some .int)
abbrev M_X4_noted : MD := (yX4_noted, cX4_noted, 2, some .int)
abbrev M_X4_troubleOfCells : MD := (yX4_troubleOfCells, cX4_troubleOfCells, 5, some .int)
abbrev M_X4_troubleOfVisits : MD := (yX4_troubleOfVisits, cX4_troubleOfVisits, 7, some .int)
abbrev M_X4_troubleOfOne : MD := (yX4_troubleOfOne, cX4_troubleOfOne, 6, some .int)
abbrev M_X4_troubleOfNew : MD := (yX4_troubleOfNew, cX4_troubleOfNew, 4, some .int)
abbrev M_X4_troubleOfPut : MD := (yX4_troubleOfPut, cX4_troubleOfPut, 3, some .int)
abbrev M_X4_troubleOfCopy : MD := (yX4_troubleOfCopy, cX4_troubleOfCopy, 6, some .int)
abbrev M_X4_answerOfKind : MD := (yX4_answerOfKind, cX4_answerOfKind, 3, some .int)
abbrev M_X4_isSheet : MD := (yX4_isSheet, cX4_isSheet, 1, some .boolean)
abbrev M_X4_isLane : MD := (yX4_isLane, cX4_isLane, 1, some .boolean)
abbrev M_X4_isQuestion : MD := (yX4_isQuestion, cX4_isQuestion, 1, some .boolean)
abbrev M_X4_firstFault : MD := (yX4_firstFault, cX4_firstFault, 4, some .int)
abbrev M_X4_goesOn : MD := (yX4_goesOn, cX4_goesOn, 2, some .boolean)
abbrev M_X4_kindOfLetter : MD := (yX4_kindOfLetter, cX4_kindOfLetter, 1, some .int)
abbrev M_X4_lasting : MD := (yX4_lasting, cX4_lasting, 3, some .int)
abbrev M_X4_takeRow : MD := (yX4_takeRow, cX4_takeRow, 6, some .boolean)
abbrev M_X4_firstWrong : MD := (yX4_firstWrong, cX4_firstWrong, 2, some .int)
abbrev M_X4_answerOfHall : MD := (yX4_answerOfHall, cX4_answerOfHall, 2, some .int)
abbrev M_X4_answerOfHead : MD := (yX4_answerOfHead, cX4_answerOfHead, 3, some .int)
abbrev M_X4_bitIfAllSo : MD := (yX4_bitIfAllSo, cX4_bitIfAllSo, 2, some .int)
abbrev M_X4_allSo : MD := (yX4_allSo, cX4_allSo, 2, some .boolean)
abbrev M_X4_rowsTo : MD := (yX4_rowsTo, cX4_rowsTo, 6, some .int)
abbrev M_X4_greatestDivisor : MD := (yX4_greatestDivisor, cX4_greatestDivisor, 6, some .int)
abbrev M_X4_leaveTrace : MD := (yX4_leaveTrace, cX4_leaveTrace, 2, none)
abbrev M_X4_headsTelling : MD := (yX4_headsTelling, cX4_headsTelling, 2, some .int)
abbrev M_X4_lordsTelling : MD := (yX4_lordsTelling, cX4_lordsTelling, 2, some .int)
abbrev M_X4_spysTelling : MD := (yX4_spysTelling, cX4_spysTelling, 3, some .int)
abbrev M_X4_cut : MD := (yX4_cut, cX4_cut, 2, some .int)
abbrev M_X5_fails : MD := (yX5_fails, cX5_fails, 2, some .int)
abbrev M_X5_lost : MD := (yX5_lost, cX5_lost, 2, some .long)
abbrev M_X5_within : MD := (yX5_within, cX5_within, 3, some .boolean)
abbrev M_X5_isSheet : MD := (yX5_isSheet, cX5_isSheet, 1, some .boolean)
abbrev M_X5_isSort : MD := (yX5_isSort, cX5_isSort, 1, some .boolean)
abbrev M_X5_against : MD := (yX5_against, cX5_against, 5, some .int)
abbrev M_X5_isHead : MD := (yX5_isHead, cX5_isHead, 2, some .boolean)
abbrev M_X5_digit : MD := (yX5_digit, cX5_digit, 4, some .int)
abbrev M_X5_isSign : MD := (yX5_isSign, cX5_isSign, 3, some .boolean)
abbrev M_X5_court : MD := (yX5_court, cX5_court, 8, some .int)
abbrev M_X5_readCourt : MD := (yX5_readCourt, cX5_readCourt, 2, some .boolean)
abbrev M_X5_readHead : MD := (yX5_readHead, cX5_readHead, 4, some .boolean)
abbrev M_X5_lasts : MD := (yX5_lasts, cX5_lasts, 3, some .int)
abbrev M_X5_ofHead : MD := (yX5_ofHead, cX5_ofHead, 3, some .int)
abbrev M_X5_wear : MD := (yX5_wear, cX5_wear, 4, some .int)
abbrev M_X5_knows : MD := (yX5_knows, cX5_knows, 4, some .int)
abbrev M_X5_begin : MD := (yX5_begin, cX5_begin, 2, none)
abbrev M_X5_change : MD := (yX5_change, cX5_change, 3, none)
abbrev M_X5_visit : MD := (yX5_visit, cX5_visit, 2, some .boolean)
abbrev M_X5_layVisits : MD := (yX5_layVisits, cX5_layVisits, 7, some .int)
abbrev M_X5_isRow : MD := (yX5_isRow, cX5_isRow, 2, some .boolean)
abbrev M_X5_go : MD := (yX5_go, cX5_go, 2, some .int)
abbrev M_X5_isWhat : MD := (yX5_isWhat, cX5_isWhat, 1, some .boolean)
abbrev M_X5_visits : MD := (yX5_visits, cX5_visits, 8, some .int)
abbrev M_X5_tellVisits : MD := (yX5_tellVisits, cX5_tellVisits, 3, some .int)
abbrev M_X5_atHome : MD := (yX5_atHome, cX5_atHome, 3, some .int)
abbrev M_X5_firstAway : MD := (yX5_firstAway, cX5_firstAway, 2, some .int)
abbrev M_X5_home : MD := (yX5_home, cX5_home, 2, some .int)
abbrev M_X5_worn : MD := (yX5_worn, cX5_worn, 3, some .int)
abbrev M_X5_fooled : MD := (yX5_fooled, cX5_fooled, 4, some .int)
abbrev M_X5_layRow : MD := (yX5_layRow, cX5_layRow, 5, none)
abbrev M_X5_findPlan : MD := (yX5_findPlan, cX5_findPlan, 6, none)
abbrev M_X5_plan : MD := (yX5_plan, cX5_plan, 4, some .int)
abbrev M_X5_reading : MD := (yX5_reading, cX5_reading, 4, some .int)
abbrev M_X5_back : MD := (yX5_back, cX5_back, 2, some .int)
abbrev M_X5_areSoBehind : MD := (yX5_areSoBehind, cX5_areSoBehind, 3, some .boolean)
abbrev M_X5_areSo : MD := (yX5_areSo, cX5_areSo, 3, some .boolean)
abbrev M_X5_who : MD := (yX5_who, cX5_who, 9, some .int)
abbrev M_X5_lay : MD := (yX5_lay, cX5_lay, 6, some .int)
abbrev M_X5_kinds : MD := (yX5_kinds, cX5_kinds, 10, some .int)
abbrev M_X5_wears : MD := (yX5_wears, cX5_wears, 10, some .int)
abbrev M_X5_inLeastTerms : MD := (yX5_inLeastTerms, cX5_inLeastTerms, 11, some .long)
abbrev M_X5_odds : MD := (yX5_odds, cX5_odds, 8, some .long)
abbrev M_X5_sheet : MD := (yX5_sheet, cX5_sheet, 5, some .int)
abbrev M_X5_lose : MD := (yX5_lose, cX5_lose, 3, some .int)
abbrev M_X5_put : MD := (yX5_put, cX5_put, 4, some .int)
abbrev M_X5_cell : MD := (yX5_cell, cX5_cell, 4, some .long)
abbrev M_X5_copy : MD := (yX5_copy, cX5_copy, 10, some .int)
abbrev M_X5_begins : MD := (yX5_begins, cX5_begins, 2, none)
abbrev M_X5_tell : MD := (yX5_tell, cX5_tell, 3, some .int)
abbrev M_X5_greet : MD := (yX5_greet, cX5_greet, 2, some .int)
abbrev M_X5_as : MD := (yX5_as, cX5_as, 3, some .int)
abbrev M_X5_trace : MD := (yX5_trace, cX5_trace, 1, some .int)
abbrev M_X5_fault : MD := (yX5_fault, cX5_fault, 1, some .int)
abbrev M_X5_many : MD := (yX5_many, cX5_many, 2, some .int)
theorem rok2 (d : Nat) : 1 ≤ (rmD (d + 1)).frames ∧ 40 ≤ (rmD (d + 1)).locals ∧ 0 ≤ (rmD (d + 1)).cells ∧ 0 ≤ (rmD (d + 1)).slots := ⟨by show 1 ≤ d + 1; omega, by show 40 ≤ 40 * (d + 1); omega, Nat.zero_le _, Nat.zero_le _⟩
theorem rok1 (d : Nat) : 1 ≤ (rmD (d + 1)).frames ∧ 40 ≤ (rmD (d + 1)).locals := ⟨by show 1 ≤ d + 1; omega, by show 40 ≤ 40 * (d + 1); omega⟩
set_option maxRecDepth 20000 in
theorem fl_X0_21 : FL RX0 21 0 3 := ⟨RX0, TX0, 4, 100, rfl, by decide, Or.inl ⟨by decide +kernel, rfl⟩⟩
set_option maxRecDepth 20000 in
theorem fl_X0_9 : FL RX0 9 0 0 := ⟨RX0, TX0, 4, 91, rfl, by decide, Or.inl ⟨by decide +kernel, rfl⟩⟩
set_option maxRecDepth 20000 in
theorem fl_X0_31 : FL RX0 31 3 0 := ⟨RX3, TX3, 3, 71, rfl, by decide, Or.inr ⟨by decide +kernel, rfl⟩⟩
set_option maxRecDepth 20000 in
theorem ml_X0_36 : MS1 RX0 36 M_X4_kindOfLetter 1 := ⟨227, 228, Or.inr ⟨by decide +kernel, rfl⟩, ⟨by decide +kernel, rfl⟩, ⟨47, 229, ⟨by decide +kernel, rfl⟩, ⟨by decide +kernel, rfl⟩, by decide +kernel, by decide⟩⟩
set_option maxRecDepth 20000 in
theorem fl_X0_15 : FL RX0 15 0 1 := ⟨RX0, TX0, 4, 94, rfl, by decide, Or.inl ⟨by decide +kernel, rfl⟩⟩
set_option maxRecDepth 20000 in
theorem fl_X0_18 : FL RX0 18 0 2 := ⟨RX0, TX0, 4, 97, rfl, by decide, Or.inl ⟨by decide +kernel, rfl⟩⟩
set_option maxRecDepth 20000 in
theorem fl_X1_25 : FL RX1 25 0 3 := ⟨RX0, TX0, 4, 99, rfl, by decide, Or.inr ⟨by decide +kernel, rfl⟩⟩
set_option maxRecDepth 20000 in
theorem fl_X1_30 : FL RX1 30 1 3 := ⟨RX1, TX1, 5, 124, rfl, by decide, Or.inl ⟨by decide +kernel, rfl⟩⟩
set_option maxRecDepth 20000 in
theorem fl_X1_21 : FL RX1 21 1 4 := ⟨RX1, TX1, 5, 126, rfl, by decide, Or.inl ⟨by decide +kernel, rfl⟩⟩
set_option maxRecDepth 20000 in
theorem fl_X1_9 : FL RX1 9 1 0 := ⟨RX1, TX1, 5, 117, rfl, by decide, Or.inl ⟨by decide +kernel, rfl⟩⟩
set_option maxRecDepth 20000 in
theorem fl_X1_15 : FL RX1 15 1 1 := ⟨RX1, TX1, 5, 120, rfl, by decide, Or.inl ⟨by decide +kernel, rfl⟩⟩
set_option maxRecDepth 20000 in
theorem fl_X1_18 : FL RX1 18 1 2 := ⟨RX1, TX1, 5, 122, rfl, by decide, Or.inl ⟨by decide +kernel, rfl⟩⟩
set_option maxRecDepth 20000 in
theorem fl_X1_33 : FL RX1 33 0 0 := ⟨RX0, TX0, 4, 92, rfl, by decide, Or.inr ⟨by decide +kernel, rfl⟩⟩
set_option maxRecDepth 20000 in
theorem fl_X1_36 : FL RX1 36 0 1 := ⟨RX0, TX0, 4, 95, rfl, by decide, Or.inr ⟨by decide +kernel, rfl⟩⟩
set_option maxRecDepth 20000 in
theorem ml_X1_39 : MS1 RX1 39 M_X4_lasting 2 := ⟨272, 239, Or.inr ⟨by decide +kernel, rfl⟩, ⟨by decide +kernel, rfl⟩, ⟨47, 240, ⟨by decide +kernel, rfl⟩, ⟨by decide +kernel, rfl⟩, by decide +kernel, by decide⟩⟩
set_option maxRecDepth 20000 in
theorem ml_X1_43 : MV1 RX1 43 M_X1_changePlaces 1 := ⟨277, 279, 5, ⟨by decide +kernel, rfl⟩, ⟨by decide +kernel, rfl⟩, ⟨by decide +kernel, rfl⟩, ⟨50, 280, ⟨by decide +kernel, rfl⟩, ⟨by decide +kernel, rfl⟩, by decide +kernel, by decide⟩⟩
set_option maxRecDepth 20000 in
theorem ml_X1_47 : MV1 RX1 47 M_X1_firstAstray 0 := ⟨293, 295, 7, ⟨by decide +kernel, rfl⟩, ⟨by decide +kernel, rfl⟩, ⟨by decide +kernel, rfl⟩, ⟨50, 296, ⟨by decide +kernel, rfl⟩, ⟨by decide +kernel, rfl⟩, by decide +kernel, by decide⟩⟩
set_option maxRecDepth 20000 in
theorem fl_X2_9 : FL RX2 9 2 0 := ⟨RX2, TX2, 4, 145, rfl, by decide, Or.inl ⟨by decide +kernel, rfl⟩⟩
set_option maxRecDepth 20000 in
theorem fl_X2_21 : FL RX2 21 2 3 := ⟨RX2, TX2, 4, 148, rfl, by decide, Or.inl ⟨by decide +kernel, rfl⟩⟩
set_option maxRecDepth 20000 in
theorem fl_X2_15 : FL RX2 15 2 1 := ⟨RX2, TX2, 4, 146, rfl, by decide, Or.inl ⟨by decide +kernel, rfl⟩⟩
set_option maxRecDepth 20000 in
theorem fl_X2_18 : FL RX2 18 2 2 := ⟨RX2, TX2, 4, 147, rfl, by decide, Or.inl ⟨by decide +kernel, rfl⟩⟩
set_option maxRecDepth 20000 in
theorem fl_X2_25 : FL RX2 25 1 0 := ⟨RX1, TX1, 5, 118, rfl, by decide, Or.inr ⟨by decide +kernel, rfl⟩⟩
set_option maxRecDepth 20000 in
theorem fl_X3_15 : FL RX3 15 3 2 := ⟨RX3, TX3, 3, 75, rfl, by decide, Or.inl ⟨by decide +kernel, rfl⟩⟩
set_option maxRecDepth 20000 in
theorem fl_X3_19 : FL RX3 19 3 1 := ⟨RX3, TX3, 3, 73, rfl, by decide, Or.inl ⟨by decide +kernel, rfl⟩⟩
set_option maxRecDepth 20000 in
theorem fl_X3_9 : FL RX3 9 3 0 := ⟨RX3, TX3, 3, 70, rfl, by decide, Or.inl ⟨by decide +kernel, rfl⟩⟩
set_option maxRecDepth 20000 in
theorem ml_X3_22 : MV1 RX3 22 M_X3_isNothing 0 := ⟨202, 203, 204, ⟨by decide +kernel, rfl⟩, ⟨by decide +kernel, rfl⟩, ⟨by decide +kernel, rfl⟩, ⟨48, 205, ⟨by decide +kernel, rfl⟩, ⟨by decide +kernel, rfl⟩, by decide +kernel, by decide⟩⟩
set_option maxRecDepth 20000 in
theorem ml_X3_26 : MV1 RX3 26 M_X3_hasCells 2 := ⟨206, 207, 208, ⟨by decide +kernel, rfl⟩, ⟨by decide +kernel, rfl⟩, ⟨by decide +kernel, rfl⟩, ⟨48, 209, ⟨by decide +kernel, rfl⟩, ⟨by decide +kernel, rfl⟩, by decide +kernel, by decide⟩⟩
set_option maxRecDepth 20000 in
theorem ml_X4_43 : MV1 RX4 43 M_X4_troubleOfCells 4 := ⟨188, 190, 0, ⟨by decide +kernel, rfl⟩, ⟨by decide +kernel, rfl⟩, ⟨by decide +kernel, rfl⟩, ⟨47, 191, ⟨by decide +kernel, rfl⟩, ⟨by decide +kernel, rfl⟩, by decide +kernel, by decide⟩⟩
set_option maxRecDepth 20000 in
theorem ml_X4_47 : MV1 RX4 47 M_X4_noted 1 := ⟨210, 212, 1, ⟨by decide +kernel, rfl⟩, ⟨by decide +kernel, rfl⟩, ⟨by decide +kernel, rfl⟩, ⟨47, 213, ⟨by decide +kernel, rfl⟩, ⟨by decide +kernel, rfl⟩, by decide +kernel, by decide⟩⟩
set_option maxRecDepth 20000 in
theorem fl_X4_13 : FL RX4 13 4 0 := ⟨RX4, TX4, 8, 159, rfl, by decide, Or.inl ⟨by decide +kernel, rfl⟩⟩
set_option maxRecDepth 20000 in
theorem ml_X4_51 : MS1 RX4 51 M_X4_firstFault 3 := ⟨214, 215, Or.inl ⟨by decide +kernel, rfl⟩, ⟨by decide +kernel, rfl⟩, ⟨47, 216, ⟨by decide +kernel, rfl⟩, ⟨by decide +kernel, rfl⟩, by decide +kernel, by decide⟩⟩
set_option maxRecDepth 20000 in
theorem fl_X4_21 : FL RX4 21 4 1 := ⟨RX4, TX4, 8, 160, rfl, by decide, Or.inl ⟨by decide +kernel, rfl⟩⟩
set_option maxRecDepth 20000 in
theorem ml_X4_55 : MV1 RX4 55 M_X0_gather 3 := ⟨220, 221, 222, ⟨by decide +kernel, rfl⟩, ⟨by decide +kernel, rfl⟩, ⟨by decide +kernel, rfl⟩, ⟨49, 223, ⟨by decide +kernel, rfl⟩, ⟨by decide +kernel, rfl⟩, by decide +kernel, by decide⟩⟩
set_option maxRecDepth 20000 in
theorem fl_X4_35 : FL RX4 35 4 3 := ⟨RX4, TX4, 8, 162, rfl, by decide, Or.inl ⟨by decide +kernel, rfl⟩⟩
set_option maxRecDepth 20000 in
theorem fl_X4_59 : FL RX4 59 2 3 := ⟨RX2, TX2, 4, 149, rfl, by decide, Or.inr ⟨by decide +kernel, rfl⟩⟩
set_option maxRecDepth 20000 in
theorem fl_X4_63 : FL RX4 63 0 3 := ⟨RX0, TX0, 4, 101, rfl, by decide, Or.inr ⟨by decide +kernel, rfl⟩⟩
set_option maxRecDepth 20000 in
theorem ml_X4_64 : MV1 RX4 64 M_X0_has 1 := ⟨234, 235, 236, ⟨by decide +kernel, rfl⟩, ⟨by decide +kernel, rfl⟩, ⟨by decide +kernel, rfl⟩, ⟨49, 237, ⟨by decide +kernel, rfl⟩, ⟨by decide +kernel, rfl⟩, by decide +kernel, by decide⟩⟩
set_option maxRecDepth 20000 in
theorem fl_X4_68 : FL RX4 68 0 0 := ⟨RX0, TX0, 4, 93, rfl, by decide, Or.inr ⟨by decide +kernel, rfl⟩⟩
set_option maxRecDepth 20000 in
theorem fl_X4_71 : FL RX4 71 0 1 := ⟨RX0, TX0, 4, 96, rfl, by decide, Or.inr ⟨by decide +kernel, rfl⟩⟩
set_option maxRecDepth 20000 in
theorem fl_X4_74 : FL RX4 74 0 2 := ⟨RX0, TX0, 4, 98, rfl, by decide, Or.inr ⟨by decide +kernel, rfl⟩⟩
set_option maxRecDepth 20000 in
theorem ml_X4_77 : MS1 RX4 77 M_X4_lasting 2 := ⟨238, 239, Or.inl ⟨by decide +kernel, rfl⟩, ⟨by decide +kernel, rfl⟩, ⟨47, 240, ⟨by decide +kernel, rfl⟩, ⟨by decide +kernel, rfl⟩, by decide +kernel, by decide⟩⟩
set_option maxRecDepth 20000 in
theorem ml_X4_81 : MS1 RX4 81 M_X4_isQuestion 1 := ⟨253, 254, Or.inl ⟨by decide +kernel, rfl⟩, ⟨by decide +kernel, rfl⟩, ⟨47, 255, ⟨by decide +kernel, rfl⟩, ⟨by decide +kernel, rfl⟩, by decide +kernel, by decide⟩⟩
set_option maxRecDepth 20000 in
theorem ml_X4_84 : MV1 RX4 84 M_X4_troubleOfVisits 5 := ⟨256, 258, 2, ⟨by decide +kernel, rfl⟩, ⟨by decide +kernel, rfl⟩, ⟨by decide +kernel, rfl⟩, ⟨47, 259, ⟨by decide +kernel, rfl⟩, ⟨by decide +kernel, rfl⟩, by decide +kernel, by decide⟩⟩
set_option maxRecDepth 20000 in
theorem ml_X4_88 : MV1 RX4 88 M_X4_firstWrong 0 := ⟨264, 266, 4, ⟨by decide +kernel, rfl⟩, ⟨by decide +kernel, rfl⟩, ⟨by decide +kernel, rfl⟩, ⟨47, 267, ⟨by decide +kernel, rfl⟩, ⟨by decide +kernel, rfl⟩, by decide +kernel, by decide⟩⟩
set_option maxRecDepth 20000 in
theorem ml_X4_95 : MV1 RX4 95 M_X4_answerOfHead 2 := ⟨301, 303, 8, ⟨by decide +kernel, rfl⟩, ⟨by decide +kernel, rfl⟩, ⟨by decide +kernel, rfl⟩, ⟨47, 304, ⟨by decide +kernel, rfl⟩, ⟨by decide +kernel, rfl⟩, by decide +kernel, by decide⟩⟩
set_option maxRecDepth 20000 in
theorem ml_X4_92 : MV1 RX4 92 M_X4_answerOfHall 1 := ⟨281, 283, 6, ⟨by decide +kernel, rfl⟩, ⟨by decide +kernel, rfl⟩, ⟨by decide +kernel, rfl⟩, ⟨47, 284, ⟨by decide +kernel, rfl⟩, ⟨by decide +kernel, rfl⟩, by decide +kernel, by decide⟩⟩
set_option maxRecDepth 20000 in
theorem ml_X4_98 : MV1 RX4 98 M_X2_add 3 := ⟨317, 318, 319, ⟨by decide +kernel, rfl⟩, ⟨by decide +kernel, rfl⟩, ⟨by decide +kernel, rfl⟩, ⟨51, 320, ⟨by decide +kernel, rfl⟩, ⟨by decide +kernel, rfl⟩, by decide +kernel, by decide⟩⟩
set_option maxRecDepth 20000 in
theorem fl_X4_39 : FL RX4 39 4 4 := ⟨RX4, TX4, 8, 163, rfl, by decide, Or.inl ⟨by decide +kernel, rfl⟩⟩
set_option maxRecDepth 20000 in
theorem fl_X4_28 : FL RX4 28 4 2 := ⟨RX4, TX4, 8, 161, rfl, by decide, Or.inl ⟨by decide +kernel, rfl⟩⟩
set_option maxRecDepth 20000 in
theorem ml_X4_102 : MV1 RX4 102 M_X1_open 1 := ⟨268, 269, 270, ⟨by decide +kernel, rfl⟩, ⟨by decide +kernel, rfl⟩, ⟨by decide +kernel, rfl⟩, ⟨50, 271, ⟨by decide +kernel, rfl⟩, ⟨by decide +kernel, rfl⟩, by decide +kernel, by decide⟩⟩
set_option maxRecDepth 20000 in
theorem ml_X4_106 : MV1 RX4 106 M_X4_bitIfAllSo 1 := ⟨329, 331, 9, ⟨by decide +kernel, rfl⟩, ⟨by decide +kernel, rfl⟩, ⟨by decide +kernel, rfl⟩, ⟨47, 332, ⟨by decide +kernel, rfl⟩, ⟨by decide +kernel, rfl⟩, by decide +kernel, by decide⟩⟩
set_option maxRecDepth 20000 in
theorem ml_X4_109 : MV1 RX4 109 M_X4_troubleOfOne 5 := ⟨349, 351, 11, ⟨by decide +kernel, rfl⟩, ⟨by decide +kernel, rfl⟩, ⟨by decide +kernel, rfl⟩, ⟨47, 352, ⟨by decide +kernel, rfl⟩, ⟨by decide +kernel, rfl⟩, by decide +kernel, by decide⟩⟩
set_option maxRecDepth 20000 in
theorem fl_X4_113 : FL RX4 113 1 2 := ⟨RX1, TX1, 5, 123, rfl, by decide, Or.inr ⟨by decide +kernel, rfl⟩⟩
set_option maxRecDepth 20000 in
theorem ml_X4_118 : MS1 RX4 118 M_X4_rowsTo 4 := ⟨362, 363, Or.inl ⟨by decide +kernel, rfl⟩, ⟨by decide +kernel, rfl⟩, ⟨47, 364, ⟨by decide +kernel, rfl⟩, ⟨by decide +kernel, rfl⟩, by decide +kernel, by decide⟩⟩
set_option maxRecDepth 20000 in
theorem ml_X4_122 : MS1 RX4 122 M_X4_greatestDivisor 2 := ⟨369, 370, Or.inl ⟨by decide +kernel, rfl⟩, ⟨by decide +kernel, rfl⟩, ⟨47, 371, ⟨by decide +kernel, rfl⟩, ⟨by decide +kernel, rfl⟩, by decide +kernel, by decide⟩⟩
set_option maxRecDepth 20000 in
theorem ml_X4_125 : MV1 RX4 125 M_X4_troubleOfNew 3 := ⟨379, 381, 12, ⟨by decide +kernel, rfl⟩, ⟨by decide +kernel, rfl⟩, ⟨by decide +kernel, rfl⟩, ⟨47, 382, ⟨by decide +kernel, rfl⟩, ⟨by decide +kernel, rfl⟩, by decide +kernel, by decide⟩⟩
set_option maxRecDepth 20000 in
theorem ml_X4_128 : MV1 RX4 128 M_X3_renew 2 := ⟨383, 384, 385, ⟨by decide +kernel, rfl⟩, ⟨by decide +kernel, rfl⟩, ⟨by decide +kernel, rfl⟩, ⟨48, 386, ⟨by decide +kernel, rfl⟩, ⟨by decide +kernel, rfl⟩, by decide +kernel, by decide⟩⟩
set_option maxRecDepth 20000 in
theorem ml_X4_132 : MS1 RX4 132 M_X4_isSheet 1 := ⟨192, 193, Or.inl ⟨by decide +kernel, rfl⟩, ⟨by decide +kernel, rfl⟩, ⟨47, 194, ⟨by decide +kernel, rfl⟩, ⟨by decide +kernel, rfl⟩, by decide +kernel, by decide⟩⟩
set_option maxRecDepth 20000 in
theorem ml_X4_135 : MV1 RX4 135 M_X3_isNothing 0 := ⟨391, 203, 204, ⟨by decide +kernel, rfl⟩, ⟨by decide +kernel, rfl⟩, ⟨by decide +kernel, rfl⟩, ⟨48, 205, ⟨by decide +kernel, rfl⟩, ⟨by decide +kernel, rfl⟩, by decide +kernel, by decide⟩⟩
set_option maxRecDepth 20000 in
theorem fl_X4_139 : FL RX4 139 3 2 := ⟨RX3, TX3, 3, 76, rfl, by decide, Or.inr ⟨by decide +kernel, rfl⟩⟩
set_option maxRecDepth 20000 in
theorem ml_X4_142 : MV1 RX4 142 M_X4_troubleOfPut 2 := ⟨396, 398, 13, ⟨by decide +kernel, rfl⟩, ⟨by decide +kernel, rfl⟩, ⟨by decide +kernel, rfl⟩, ⟨47, 399, ⟨by decide +kernel, rfl⟩, ⟨by decide +kernel, rfl⟩, by decide +kernel, by decide⟩⟩
set_option maxRecDepth 20000 in
theorem fl_X4_145 : FL RX4 145 3 0 := ⟨RX3, TX3, 3, 72, rfl, by decide, Or.inr ⟨by decide +kernel, rfl⟩⟩
set_option maxRecDepth 20000 in
theorem fl_X4_148 : FL RX4 148 3 1 := ⟨RX3, TX3, 3, 74, rfl, by decide, Or.inr ⟨by decide +kernel, rfl⟩⟩
set_option maxRecDepth 20000 in
theorem ml_X4_151 : MS1 RX4 151 M_X4_cut 2 := ⟨401, 402, Or.inl ⟨by decide +kernel, rfl⟩, ⟨by decide +kernel, rfl⟩, ⟨47, 403, ⟨by decide +kernel, rfl⟩, ⟨by decide +kernel, rfl⟩, by decide +kernel, by decide⟩⟩
set_option maxRecDepth 20000 in
theorem ml_X4_154 : MV1 RX4 154 M_X4_troubleOfCopy 5 := ⟨412, 414, 14, ⟨by decide +kernel, rfl⟩, ⟨by decide +kernel, rfl⟩, ⟨by decide +kernel, rfl⟩, ⟨47, 415, ⟨by decide +kernel, rfl⟩, ⟨by decide +kernel, rfl⟩, by decide +kernel, by decide⟩⟩
set_option maxRecDepth 20000 in
theorem ml_X4_166 : MV1 RX4 166 M_X4_lordsTelling 1 := ⟨431, 433, 17, ⟨by decide +kernel, rfl⟩, ⟨by decide +kernel, rfl⟩, ⟨by decide +kernel, rfl⟩, ⟨47, 434, ⟨by decide +kernel, rfl⟩, ⟨by decide +kernel, rfl⟩, by decide +kernel, by decide⟩⟩
set_option maxRecDepth 20000 in
theorem ml_X4_163 : MV1 RX4 163 M_X4_spysTelling 1 := ⟨423, 425, 15, ⟨by decide +kernel, rfl⟩, ⟨by decide +kernel, rfl⟩, ⟨by decide +kernel, rfl⟩, ⟨47, 426, ⟨by decide +kernel, rfl⟩, ⟨by decide +kernel, rfl⟩, by decide +kernel, by decide⟩⟩
set_option maxRecDepth 20000 in
theorem ml_X4_169 : MV1 RX4 169 M_X4_headsTelling 1 := ⟨435, 437, 18, ⟨by decide +kernel, rfl⟩, ⟨by decide +kernel, rfl⟩, ⟨by decide +kernel, rfl⟩, ⟨47, 438, ⟨by decide +kernel, rfl⟩, ⟨by decide +kernel, rfl⟩, by decide +kernel, by decide⟩⟩
set_option maxRecDepth 20000 in
theorem ml_X4_172 : MV1 RX4 172 M_X4_leaveTrace 1 := ⟨427, 429, 16, ⟨by decide +kernel, rfl⟩, ⟨by decide +kernel, rfl⟩, ⟨by decide +kernel, rfl⟩, ⟨47, 430, ⟨by decide +kernel, rfl⟩, ⟨by decide +kernel, rfl⟩, by decide +kernel, by decide⟩⟩
set_option maxRecDepth 20000 in
theorem ml_X4_176 : MV1 RX4 176 M_X4_answerOfKind 2 := ⟨447, 449, 19, ⟨by decide +kernel, rfl⟩, ⟨by decide +kernel, rfl⟩, ⟨by decide +kernel, rfl⟩, ⟨47, 450, ⟨by decide +kernel, rfl⟩, ⟨by decide +kernel, rfl⟩, by decide +kernel, by decide⟩⟩
set_option maxRecDepth 20000 in
theorem fl_X4_179 : FL RX4 179 4 6 := ⟨RX4, TX4, 8, 165, rfl, by decide, Or.inl ⟨by decide +kernel, rfl⟩⟩
set_option maxRecDepth 20000 in
theorem fl_X4_182 : FL RX4 182 4 7 := ⟨RX4, TX4, 8, 166, rfl, by decide, Or.inl ⟨by decide +kernel, rfl⟩⟩
set_option maxRecDepth 20000 in
theorem ml_X4_185 : MS1 RX4 185 M_X4_isLane 1 := ⟨195, 196, Or.inl ⟨by decide +kernel, rfl⟩, ⟨by decide +kernel, rfl⟩, ⟨47, 197, ⟨by decide +kernel, rfl⟩, ⟨by decide +kernel, rfl⟩, by decide +kernel, by decide⟩⟩
set_option maxRecDepth 20000 in
theorem ml_X4_188 : MV1 RX4 188 M_X3_faultOfCells 3 := ⟨198, 199, 200, ⟨by decide +kernel, rfl⟩, ⟨by decide +kernel, rfl⟩, ⟨by decide +kernel, rfl⟩, ⟨48, 201, ⟨by decide +kernel, rfl⟩, ⟨by decide +kernel, rfl⟩, by decide +kernel, by decide⟩⟩
set_option maxRecDepth 20000 in
theorem ml_X4_191 : MV1 RX4 191 M_X4_takeRow 3 := ⟨260, 262, 3, ⟨by decide +kernel, rfl⟩, ⟨by decide +kernel, rfl⟩, ⟨by decide +kernel, rfl⟩, ⟨47, 263, ⟨by decide +kernel, rfl⟩, ⟨by decide +kernel, rfl⟩, by decide +kernel, by decide⟩⟩
set_option maxRecDepth 20000 in
theorem ml_X4_195 : MV1 RX4 195 M_X3_hasCells 2 := ⟨400, 207, 208, ⟨by decide +kernel, rfl⟩, ⟨by decide +kernel, rfl⟩, ⟨by decide +kernel, rfl⟩, ⟨48, 209, ⟨by decide +kernel, rfl⟩, ⟨by decide +kernel, rfl⟩, by decide +kernel, by decide⟩⟩
set_option maxRecDepth 20000 in
theorem ml_X4_199 : MS1 RX4 199 M_X4_goesOn 2 := ⟨217, 218, Or.inl ⟨by decide +kernel, rfl⟩, ⟨by decide +kernel, rfl⟩, ⟨47, 219, ⟨by decide +kernel, rfl⟩, ⟨by decide +kernel, rfl⟩, by decide +kernel, by decide⟩⟩
set_option maxRecDepth 20000 in
theorem fl_X4_202 : FL RX4 202 4 5 := ⟨RX4, TX4, 8, 164, rfl, by decide, Or.inl ⟨by decide +kernel, rfl⟩⟩
set_option maxRecDepth 20000 in
theorem ml_X4_205 : MV1 RX4 205 M_X1_receives 1 := ⟨273, 274, 275, ⟨by decide +kernel, rfl⟩, ⟨by decide +kernel, rfl⟩, ⟨by decide +kernel, rfl⟩, ⟨50, 276, ⟨by decide +kernel, rfl⟩, ⟨by decide +kernel, rfl⟩, by decide +kernel, by decide⟩⟩
set_option maxRecDepth 20000 in
theorem ml_X4_208 : MV1 RX4 208 M_X1_ownWearers 0 := ⟨285, 286, 287, ⟨by decide +kernel, rfl⟩, ⟨by decide +kernel, rfl⟩, ⟨by decide +kernel, rfl⟩, ⟨50, 288, ⟨by decide +kernel, rfl⟩, ⟨by decide +kernel, rfl⟩, by decide +kernel, by decide⟩⟩
set_option maxRecDepth 20000 in
theorem ml_X4_217 : MV1 RX4 217 M_X1_mostTaken 0 := ⟨297, 298, 299, ⟨by decide +kernel, rfl⟩, ⟨by decide +kernel, rfl⟩, ⟨by decide +kernel, rfl⟩, ⟨50, 300, ⟨by decide +kernel, rfl⟩, ⟨by decide +kernel, rfl⟩, by decide +kernel, by decide⟩⟩
set_option maxRecDepth 20000 in
theorem ml_X4_211 : MV1 RX4 211 M_X1_visitsHome 0 := ⟨289, 290, 291, ⟨by decide +kernel, rfl⟩, ⟨by decide +kernel, rfl⟩, ⟨by decide +kernel, rfl⟩, ⟨50, 292, ⟨by decide +kernel, rfl⟩, ⟨by decide +kernel, rfl⟩, by decide +kernel, by decide⟩⟩
set_option maxRecDepth 20000 in
theorem fl_X4_214 : FL RX4 214 1 4 := ⟨RX1, TX1, 5, 127, rfl, by decide, Or.inr ⟨by decide +kernel, rfl⟩⟩
set_option maxRecDepth 20000 in
theorem fl_X4_220 : FL RX4 220 1 0 := ⟨RX1, TX1, 5, 119, rfl, by decide, Or.inr ⟨by decide +kernel, rfl⟩⟩
set_option maxRecDepth 20000 in
theorem fl_X4_223 : FL RX4 223 1 1 := ⟨RX1, TX1, 5, 121, rfl, by decide, Or.inr ⟨by decide +kernel, rfl⟩⟩
set_option maxRecDepth 20000 in
theorem ml_X4_226 : MV1 RX4 226 M_X1_fooling 2 := ⟨305, 306, 307, ⟨by decide +kernel, rfl⟩, ⟨by decide +kernel, rfl⟩, ⟨by decide +kernel, rfl⟩, ⟨50, 308, ⟨by decide +kernel, rfl⟩, ⟨by decide +kernel, rfl⟩, by decide +kernel, by decide⟩⟩
set_option maxRecDepth 20000 in
theorem ml_X4_229 : MV1 RX4 229 M_X4_allSo 0 := ⟨333, 335, 10, ⟨by decide +kernel, rfl⟩, ⟨by decide +kernel, rfl⟩, ⟨by decide +kernel, rfl⟩, ⟨47, 336, ⟨by decide +kernel, rfl⟩, ⟨by decide +kernel, rfl⟩, by decide +kernel, by decide⟩⟩
set_option maxRecDepth 20000 in
theorem ml_X4_232 : MV1 RX4 232 M_X2_reachBeyond 1 := ⟨337, 338, 339, ⟨by decide +kernel, rfl⟩, ⟨by decide +kernel, rfl⟩, ⟨by decide +kernel, rfl⟩, ⟨51, 340, ⟨by decide +kernel, rfl⟩, ⟨by decide +kernel, rfl⟩, by decide +kernel, by decide⟩⟩
set_option maxRecDepth 20000 in
theorem ml_X4_235 : MV1 RX4 235 M_X2_areSo 2 := ⟨341, 342, 343, ⟨by decide +kernel, rfl⟩, ⟨by decide +kernel, rfl⟩, ⟨by decide +kernel, rfl⟩, ⟨51, 344, ⟨by decide +kernel, rfl⟩, ⟨by decide +kernel, rfl⟩, by decide +kernel, by decide⟩⟩
set_option maxRecDepth 20000 in
theorem fl_X4_239 : FL RX4 239 1 3 := ⟨RX1, TX1, 5, 125, rfl, by decide, Or.inr ⟨by decide +kernel, rfl⟩⟩
set_option maxRecDepth 20000 in
theorem ml_X4_241 : MV1 RX4 241 M_X1_takesBack 1 := ⟨365, 366, 367, ⟨by decide +kernel, rfl⟩, ⟨by decide +kernel, rfl⟩, ⟨by decide +kernel, rfl⟩, ⟨50, 368, ⟨by decide +kernel, rfl⟩, ⟨by decide +kernel, rfl⟩, by decide +kernel, by decide⟩⟩
set_option maxRecDepth 20000 in
theorem fl_X5_49 : FL RX5 49 5 0 := ⟨RX5, TX5, 22, 469, rfl, by decide, Or.inl ⟨by decide +kernel, rfl⟩⟩
set_option maxRecDepth 20000 in
theorem ml_X5_55 : MS1 RX5 55 M_X5_within 3 := ⟨543, 544, Or.inl ⟨by decide +kernel, rfl⟩, ⟨by decide +kernel, rfl⟩, ⟨52, 545, ⟨by decide +kernel, rfl⟩, ⟨by decide +kernel, rfl⟩, by decide +kernel, by decide⟩⟩
set_option maxRecDepth 20000 in
theorem fl_X5_9 : FL RX5 9 5 2 := ⟨RX5, TX5, 22, 471, rfl, by decide, Or.inl ⟨by decide +kernel, rfl⟩⟩
set_option maxRecDepth 20000 in
theorem fl_X5_13 : FL RX5 13 5 3 := ⟨RX5, TX5, 22, 472, rfl, by decide, Or.inl ⟨by decide +kernel, rfl⟩⟩
set_option maxRecDepth 20000 in
theorem fl_X5_59 : FL RX5 59 5 5 := ⟨RX5, TX5, 22, 474, rfl, by decide, Or.inl ⟨by decide +kernel, rfl⟩⟩
set_option maxRecDepth 20000 in
theorem fl_X5_62 : FL RX5 62 5 9 := ⟨RX5, TX5, 22, 478, rfl, by decide, Or.inl ⟨by decide +kernel, rfl⟩⟩
set_option maxRecDepth 20000 in
theorem fl_X5_16 : FL RX5 16 5 4 := ⟨RX5, TX5, 22, 473, rfl, by decide, Or.inl ⟨by decide +kernel, rfl⟩⟩
set_option maxRecDepth 20000 in
theorem ml_X5_65 : MS1 RX5 65 M_X5_isSheet 1 := ⟨540, 541, Or.inl ⟨by decide +kernel, rfl⟩, ⟨by decide +kernel, rfl⟩, ⟨52, 542, ⟨by decide +kernel, rfl⟩, ⟨by decide +kernel, rfl⟩, by decide +kernel, by decide⟩⟩
set_option maxRecDepth 20000 in
theorem ml_X5_69 : MS1 RX5 69 M_X5_isSort 1 := ⟨546, 547, Or.inl ⟨by decide +kernel, rfl⟩, ⟨by decide +kernel, rfl⟩, ⟨52, 548, ⟨by decide +kernel, rfl⟩, ⟨by decide +kernel, rfl⟩, by decide +kernel, by decide⟩⟩
set_option maxRecDepth 20000 in
theorem ml_X5_72 : MV1 RX5 72 M_X5_against 4 := ⟨549, 551, 20, ⟨by decide +kernel, rfl⟩, ⟨by decide +kernel, rfl⟩, ⟨by decide +kernel, rfl⟩, ⟨52, 552, ⟨by decide +kernel, rfl⟩, ⟨by decide +kernel, rfl⟩, by decide +kernel, by decide⟩⟩
set_option maxRecDepth 20000 in
theorem ml_X5_80 : MV1 RX5 80 M_X5_readCourt 1 := ⟨557, 559, 22, ⟨by decide +kernel, rfl⟩, ⟨by decide +kernel, rfl⟩, ⟨by decide +kernel, rfl⟩, ⟨52, 560, ⟨by decide +kernel, rfl⟩, ⟨by decide +kernel, rfl⟩, by decide +kernel, by decide⟩⟩
set_option maxRecDepth 20000 in
theorem fl_X5_83 : FL RX5 83 5 10 := ⟨RX5, TX5, 22, 479, rfl, by decide, Or.inl ⟨by decide +kernel, rfl⟩⟩
set_option maxRecDepth 20000 in
theorem ml_X5_76 : MV1 RX5 76 M_X5_fails 1 := ⟨553, 555, 21, ⟨by decide +kernel, rfl⟩, ⟨by decide +kernel, rfl⟩, ⟨by decide +kernel, rfl⟩, ⟨52, 556, ⟨by decide +kernel, rfl⟩, ⟨by decide +kernel, rfl⟩, by decide +kernel, by decide⟩⟩
set_option maxRecDepth 20000 in
theorem fl_X5_86 : FL RX5 86 5 18 := ⟨RX5, TX5, 22, 487, rfl, by decide, Or.inl ⟨by decide +kernel, rfl⟩⟩
set_option maxRecDepth 20000 in
theorem fl_X5_19 : FL RX5 19 5 6 := ⟨RX5, TX5, 22, 475, rfl, by decide, Or.inl ⟨by decide +kernel, rfl⟩⟩
set_option maxRecDepth 20000 in
theorem fl_X5_28 : FL RX5 28 5 11 := ⟨RX5, TX5, 22, 480, rfl, by decide, Or.inl ⟨by decide +kernel, rfl⟩⟩
set_option maxRecDepth 20000 in
theorem fl_X5_22 : FL RX5 22 5 7 := ⟨RX5, TX5, 22, 476, rfl, by decide, Or.inl ⟨by decide +kernel, rfl⟩⟩
set_option maxRecDepth 20000 in
theorem fl_X5_25 : FL RX5 25 5 8 := ⟨RX5, TX5, 22, 477, rfl, by decide, Or.inl ⟨by decide +kernel, rfl⟩⟩
set_option maxRecDepth 20000 in
theorem ml_X5_89 : MV1 RX5 89 M_X5_isSign 2 := ⟨561, 563, 23, ⟨by decide +kernel, rfl⟩, ⟨by decide +kernel, rfl⟩, ⟨by decide +kernel, rfl⟩, ⟨52, 564, ⟨by decide +kernel, rfl⟩, ⟨by decide +kernel, rfl⟩, by decide +kernel, by decide⟩⟩
set_option maxRecDepth 20000 in
theorem ml_X5_93 : MV1 RX5 93 M_X5_readHead 1 := ⟨565, 567, 24, ⟨by decide +kernel, rfl⟩, ⟨by decide +kernel, rfl⟩, ⟨by decide +kernel, rfl⟩, ⟨52, 568, ⟨by decide +kernel, rfl⟩, ⟨by decide +kernel, rfl⟩, by decide +kernel, by decide⟩⟩
set_option maxRecDepth 20000 in
theorem ml_X5_96 : MV1 RX5 96 M_X5_digit 3 := ⟨569, 571, 25, ⟨by decide +kernel, rfl⟩, ⟨by decide +kernel, rfl⟩, ⟨by decide +kernel, rfl⟩, ⟨52, 572, ⟨by decide +kernel, rfl⟩, ⟨by decide +kernel, rfl⟩, by decide +kernel, by decide⟩⟩
set_option maxRecDepth 20000 in
theorem ml_X5_100 : MV1 RX5 100 M_X5_isHead 1 := ⟨577, 579, 26, ⟨by decide +kernel, rfl⟩, ⟨by decide +kernel, rfl⟩, ⟨by decide +kernel, rfl⟩, ⟨52, 580, ⟨by decide +kernel, rfl⟩, ⟨by decide +kernel, rfl⟩, by decide +kernel, by decide⟩⟩
set_option maxRecDepth 20000 in
theorem ml_X5_103 : MV1 RX5 103 M_X5_lasts 1 := ⟨581, 583, 27, ⟨by decide +kernel, rfl⟩, ⟨by decide +kernel, rfl⟩, ⟨by decide +kernel, rfl⟩, ⟨52, 584, ⟨by decide +kernel, rfl⟩, ⟨by decide +kernel, rfl⟩, by decide +kernel, by decide⟩⟩
set_option maxRecDepth 20000 in
theorem fl_X5_106 : FL RX5 106 5 14 := ⟨RX5, TX5, 22, 483, rfl, by decide, Or.inl ⟨by decide +kernel, rfl⟩⟩
set_option maxRecDepth 20000 in
theorem fl_X5_31 : FL RX5 31 5 12 := ⟨RX5, TX5, 22, 481, rfl, by decide, Or.inl ⟨by decide +kernel, rfl⟩⟩
set_option maxRecDepth 20000 in
theorem fl_X5_34 : FL RX5 34 5 13 := ⟨RX5, TX5, 22, 482, rfl, by decide, Or.inl ⟨by decide +kernel, rfl⟩⟩
set_option maxRecDepth 20000 in
theorem ml_X5_109 : MV1 RX5 109 M_X5_change 1 := ⟨619, 621, 32, ⟨by decide +kernel, rfl⟩, ⟨by decide +kernel, rfl⟩, ⟨by decide +kernel, rfl⟩, ⟨52, 622, ⟨by decide +kernel, rfl⟩, ⟨by decide +kernel, rfl⟩, by decide +kernel, by decide⟩⟩
set_option maxRecDepth 20000 in
theorem fl_X5_113 : FL RX5 113 5 15 := ⟨RX5, TX5, 22, 484, rfl, by decide, Or.inl ⟨by decide +kernel, rfl⟩⟩
set_option maxRecDepth 20000 in
theorem fl_X5_37 : FL RX5 37 5 16 := ⟨RX5, TX5, 22, 485, rfl, by decide, Or.inl ⟨by decide +kernel, rfl⟩⟩
set_option maxRecDepth 20000 in
theorem ml_X5_116 : MV1 RX5 116 M_X5_begin 0 := ⟨611, 613, 30, ⟨by decide +kernel, rfl⟩, ⟨by decide +kernel, rfl⟩, ⟨by decide +kernel, rfl⟩, ⟨52, 614, ⟨by decide +kernel, rfl⟩, ⟨by decide +kernel, rfl⟩, by decide +kernel, by decide⟩⟩
set_option maxRecDepth 20000 in
theorem ml_X5_119 : MV1 RX5 119 M_X5_visit 1 := ⟨615, 617, 31, ⟨by decide +kernel, rfl⟩, ⟨by decide +kernel, rfl⟩, ⟨by decide +kernel, rfl⟩, ⟨52, 618, ⟨by decide +kernel, rfl⟩, ⟨by decide +kernel, rfl⟩, by decide +kernel, by decide⟩⟩
set_option maxRecDepth 20000 in
theorem ml_X5_122 : MS1 RX5 122 M_X5_isRow 2 := ⟨597, 598, Or.inl ⟨by decide +kernel, rfl⟩, ⟨by decide +kernel, rfl⟩, ⟨52, 599, ⟨by decide +kernel, rfl⟩, ⟨by decide +kernel, rfl⟩, by decide +kernel, by decide⟩⟩
set_option maxRecDepth 20000 in
theorem ml_X5_125 : MS1 RX5 125 M_X5_isWhat 1 := ⟨600, 601, Or.inl ⟨by decide +kernel, rfl⟩, ⟨by decide +kernel, rfl⟩, ⟨52, 602, ⟨by decide +kernel, rfl⟩, ⟨by decide +kernel, rfl⟩, by decide +kernel, by decide⟩⟩
set_option maxRecDepth 20000 in
theorem ml_X5_128 : MV1 RX5 128 M_X5_layVisits 4 := ⟨603, 605, 28, ⟨by decide +kernel, rfl⟩, ⟨by decide +kernel, rfl⟩, ⟨by decide +kernel, rfl⟩, ⟨52, 606, ⟨by decide +kernel, rfl⟩, ⟨by decide +kernel, rfl⟩, by decide +kernel, by decide⟩⟩
set_option maxRecDepth 20000 in
theorem ml_X5_131 : MV1 RX5 131 M_X5_go 0 := ⟨607, 609, 29, ⟨by decide +kernel, rfl⟩, ⟨by decide +kernel, rfl⟩, ⟨by decide +kernel, rfl⟩, ⟨52, 610, ⟨by decide +kernel, rfl⟩, ⟨by decide +kernel, rfl⟩, by decide +kernel, by decide⟩⟩
set_option maxRecDepth 20000 in
theorem ml_X5_135 : MV1 RX5 135 M_X5_tellVisits 1 := ⟨623, 625, 33, ⟨by decide +kernel, rfl⟩, ⟨by decide +kernel, rfl⟩, ⟨by decide +kernel, rfl⟩, ⟨52, 626, ⟨by decide +kernel, rfl⟩, ⟨by decide +kernel, rfl⟩, by decide +kernel, by decide⟩⟩
set_option maxRecDepth 20000 in
theorem ml_X5_138 : MV1 RX5 138 M_X5_atHome 0 := ⟨627, 629, 34, ⟨by decide +kernel, rfl⟩, ⟨by decide +kernel, rfl⟩, ⟨by decide +kernel, rfl⟩, ⟨52, 630, ⟨by decide +kernel, rfl⟩, ⟨by decide +kernel, rfl⟩, by decide +kernel, by decide⟩⟩
set_option maxRecDepth 20000 in
theorem ml_X5_147 : MV1 RX5 147 M_X5_fooled 1 := ⟨643, 645, 38, ⟨by decide +kernel, rfl⟩, ⟨by decide +kernel, rfl⟩, ⟨by decide +kernel, rfl⟩, ⟨52, 646, ⟨by decide +kernel, rfl⟩, ⟨by decide +kernel, rfl⟩, by decide +kernel, by decide⟩⟩
set_option maxRecDepth 20000 in
theorem ml_X5_141 : MV1 RX5 141 M_X5_home 0 := ⟨631, 633, 35, ⟨by decide +kernel, rfl⟩, ⟨by decide +kernel, rfl⟩, ⟨by decide +kernel, rfl⟩, ⟨52, 634, ⟨by decide +kernel, rfl⟩, ⟨by decide +kernel, rfl⟩, by decide +kernel, by decide⟩⟩
set_option maxRecDepth 20000 in
theorem ml_X5_144 : MV1 RX5 144 M_X5_worn 0 := ⟨639, 641, 37, ⟨by decide +kernel, rfl⟩, ⟨by decide +kernel, rfl⟩, ⟨by decide +kernel, rfl⟩, ⟨52, 642, ⟨by decide +kernel, rfl⟩, ⟨by decide +kernel, rfl⟩, by decide +kernel, by decide⟩⟩
set_option maxRecDepth 20000 in
theorem ml_X5_150 : MV1 RX5 150 M_X5_firstAway 0 := ⟨635, 637, 36, ⟨by decide +kernel, rfl⟩, ⟨by decide +kernel, rfl⟩, ⟨by decide +kernel, rfl⟩, ⟨52, 638, ⟨by decide +kernel, rfl⟩, ⟨by decide +kernel, rfl⟩, by decide +kernel, by decide⟩⟩
set_option maxRecDepth 20000 in
theorem fl_X5_153 : FL RX5 153 5 17 := ⟨RX5, TX5, 22, 486, rfl, by decide, Or.inl ⟨by decide +kernel, rfl⟩⟩
set_option maxRecDepth 20000 in
theorem ml_X5_156 : MV1 RX5 156 M_X5_layRow 2 := ⟨655, 657, 40, ⟨by decide +kernel, rfl⟩, ⟨by decide +kernel, rfl⟩, ⟨by decide +kernel, rfl⟩, ⟨52, 658, ⟨by decide +kernel, rfl⟩, ⟨by decide +kernel, rfl⟩, by decide +kernel, by decide⟩⟩
set_option maxRecDepth 20000 in
theorem ml_X5_160 : MV1 RX5 160 M_X5_findPlan 2 := ⟨651, 653, 39, ⟨by decide +kernel, rfl⟩, ⟨by decide +kernel, rfl⟩, ⟨by decide +kernel, rfl⟩, ⟨52, 654, ⟨by decide +kernel, rfl⟩, ⟨by decide +kernel, rfl⟩, by decide +kernel, by decide⟩⟩
set_option maxRecDepth 20000 in
theorem fl_X5_40 : FL RX5 40 5 19 := ⟨RX5, TX5, 22, 488, rfl, by decide, Or.inl ⟨by decide +kernel, rfl⟩⟩
set_option maxRecDepth 20000 in
theorem fl_X5_43 : FL RX5 43 5 20 := ⟨RX5, TX5, 22, 489, rfl, by decide, Or.inl ⟨by decide +kernel, rfl⟩⟩
set_option maxRecDepth 20000 in
theorem fl_X5_46 : FL RX5 46 5 21 := ⟨RX5, TX5, 22, 490, rfl, by decide, Or.inl ⟨by decide +kernel, rfl⟩⟩
set_option maxRecDepth 20000 in
theorem ml_X5_163 : MV1 RX5 163 M_X5_areSoBehind 1 := ⟨675, 677, 42, ⟨by decide +kernel, rfl⟩, ⟨by decide +kernel, rfl⟩, ⟨by decide +kernel, rfl⟩, ⟨52, 678, ⟨by decide +kernel, rfl⟩, ⟨by decide +kernel, rfl⟩, by decide +kernel, by decide⟩⟩
set_option maxRecDepth 20000 in
theorem ml_X5_166 : MV1 RX5 166 M_X5_areSo 0 := ⟨671, 673, 41, ⟨by decide +kernel, rfl⟩, ⟨by decide +kernel, rfl⟩, ⟨by decide +kernel, rfl⟩, ⟨52, 674, ⟨by decide +kernel, rfl⟩, ⟨by decide +kernel, rfl⟩, by decide +kernel, by decide⟩⟩
set_option maxRecDepth 20000 in
theorem ml_X5_170 : MV1 RX5 170 M_X5_lay 5 := ⟨683, 685, 43, ⟨by decide +kernel, rfl⟩, ⟨by decide +kernel, rfl⟩, ⟨by decide +kernel, rfl⟩, ⟨52, 686, ⟨by decide +kernel, rfl⟩, ⟨by decide +kernel, rfl⟩, by decide +kernel, by decide⟩⟩
set_option maxRecDepth 20000 in
theorem ml_X5_174 : MS1 RX5 174 M_X5_inLeastTerms 3 := ⟨696, 697, Or.inl ⟨by decide +kernel, rfl⟩, ⟨by decide +kernel, rfl⟩, ⟨52, 698, ⟨by decide +kernel, rfl⟩, ⟨by decide +kernel, rfl⟩, by decide +kernel, by decide⟩⟩
set_option maxRecDepth 20000 in
theorem ml_X5_178 : MV1 RX5 178 M_X5_lost 1 := ⟨715, 717, 44, ⟨by decide +kernel, rfl⟩, ⟨by decide +kernel, rfl⟩, ⟨by decide +kernel, rfl⟩, ⟨52, 718, ⟨by decide +kernel, rfl⟩, ⟨by decide +kernel, rfl⟩, by decide +kernel, by decide⟩⟩
set_option maxRecDepth 20000 in
theorem fl_X5_182 : FL RX5 182 5 1 := ⟨RX5, TX5, 22, 470, rfl, by decide, Or.inl ⟨by decide +kernel, rfl⟩⟩
set_option maxRecDepth 20000 in
theorem ml_X5_185 : MV1 RX5 185 M_X5_begins 1 := ⟨727, 729, 45, ⟨by decide +kernel, rfl⟩, ⟨by decide +kernel, rfl⟩, ⟨by decide +kernel, rfl⟩, ⟨52, 730, ⟨by decide +kernel, rfl⟩, ⟨by decide +kernel, rfl⟩, by decide +kernel, by decide⟩⟩
end
section
theorem dX0_has_0 : decode cX0_has 0 = .ok (.iload_n 1, 1) := by decide +kernel
theorem dX0_has_1 : decode cX0_has 1 = .ok (.ifCond .lt 15, 3) := by decide +kernel
theorem dX0_has_4 : decode cX0_has 4 = .ok (.iload_n 1, 1) := by decide +kernel
theorem dX0_has_5 : decode cX0_has 5 = .ok (.aload_n 0, 1) := by decide +kernel
theorem dX0_has_6 : decode cX0_has 6 = .ok (.getfield 21, 3) := by decide +kernel
theorem dX0_has_9 : decode cX0_has 9 = .ok (.if_icmp .ge 7, 3) := by decide +kernel
theorem dX0_has_12 : decode cX0_has 12 = .ok (.iconst 1, 1) := by decide +kernel
theorem dX0_has_13 : decode cX0_has 13 = .ok (.goto 4, 3) := by decide +kernel
theorem dX0_has_16 : decode cX0_has 16 = .ok (.iconst 0, 1) := by decide +kernel
theorem dX0_has_17 : decode cX0_has 17 = .ok (.ireturn, 1) := by decide +kernel
set_option maxRecDepth 20000 in
theorem S_X0_has_0 {g : GG} {d : Nat} {F : Int32 → St → Prop} (a1 : Int32) (σ : St) (h : ((a1 < 0 → F 0 σ) ∧ (¬ a1 < 0 → (((σ 10 3) ≤ a1 → F 0 σ) ∧ (¬ (σ 10 3) ≤ a1 → F 1 σ))))) : VM g d M_X0_has (qI F) 0 [(0, vR 10), (1, vI a1)] [] σ := by
  refine VE_iload_n 1 dX0_has_0 (k := ?_)
  refine VE_if_lt 16 dX0_has_1 (fun c1 => ?_) (fun c1 => ?_)
  · refine VE_iconst 0 dX0_has_16 (k := ?_)
    exact VM_zret dX0_has_17 (h.1 c1) (by decide)
  · refine VE_iload_n 1 dX0_has_4 (k := ?_)
    refine VE_aload_n 0 dX0_has_5 (k := ?_)
    refine VE_getI dX0_has_6 fl_X0_21 ?_
    refine VE_icmp_ge 16 dX0_has_9 (fun c2 => ?_) (fun c2 => ?_)
    · refine VE_iconst 0 dX0_has_16 (k := ?_)
      exact VM_zret dX0_has_17 ((h.2 c1).1 c2) (by decide)
    · refine VE_iconst 1 dX0_has_12 (k := ?_)
      refine VE_goto 17 dX0_has_13 ?_
      exact VM_zret dX0_has_17 ((h.2 c1).2 c2) (by decide)
theorem dX0_gather_0 : decode cX0_gather 0 = .ok (.aload_n 0, 1) := by decide +kernel
theorem dX0_gather_1 : decode cX0_gather 1 = .ok (.iload_n 3, 1) := by decide +kernel
theorem dX0_gather_2 : decode cX0_gather 2 = .ok (.iconst 5, 1) := by decide +kernel
theorem dX0_gather_3 : decode cX0_gather 3 = .ok (.invokestatic 25, 3) := by decide +kernel
theorem dX0_gather_6 : decode cX0_gather 6 = .ok (.putfield 21, 3) := by decide +kernel
theorem dX0_gather_9 : decode cX0_gather 9 = .ok (.iconst 0, 1) := by decide +kernel
theorem dX0_gather_10 : decode cX0_gather 10 = .ok (.istore 4, 2) := by decide +kernel
theorem dX0_gather_12 : decode cX0_gather 12 = .ok (.iload 4, 2) := by decide +kernel
theorem dX0_gather_14 : decode cX0_gather 14 = .ok (.aload_n 0, 1) := by decide +kernel
theorem dX0_gather_15 : decode cX0_gather 15 = .ok (.getfield 21, 3) := by decide +kernel
theorem dX0_gather_18 : decode cX0_gather 18 = .ok (.if_icmp .ge 74, 3) := by decide +kernel
theorem dX0_gather_21 : decode cX0_gather 21 = .ok (.iload_n 2, 1) := by decide +kernel
theorem dX0_gather_22 : decode cX0_gather 22 = .ok (.iload 4, 2) := by decide +kernel
theorem dX0_gather_24 : decode cX0_gather 24 = .ok (.iconst 4, 1) := by decide +kernel
theorem dX0_gather_25 : decode cX0_gather 25 = .ok (.imul, 1) := by decide +kernel
theorem dX0_gather_26 : decode cX0_gather 26 = .ok (.iadd, 1) := by decide +kernel
theorem dX0_gather_27 : decode cX0_gather 27 = .ok (.iconst 2, 1) := by decide +kernel
theorem dX0_gather_28 : decode cX0_gather 28 = .ok (.iadd, 1) := by decide +kernel
theorem dX0_gather_29 : decode cX0_gather 29 = .ok (.istore 5, 2) := by decide +kernel
theorem dX0_gather_31 : decode cX0_gather 31 = .ok (.aload_n 0, 1) := by decide +kernel
theorem dX0_gather_32 : decode cX0_gather 32 = .ok (.getfield 9, 3) := by decide +kernel
theorem dX0_gather_35 : decode cX0_gather 35 = .ok (.iload 4, 2) := by decide +kernel
theorem dX0_gather_37 : decode cX0_gather 37 = .ok (.aload_n 1, 1) := by decide +kernel
theorem dX0_gather_38 : decode cX0_gather 38 = .ok (.getfield 31, 3) := by decide +kernel
theorem dX0_gather_41 : decode cX0_gather 41 = .ok (.iload 5, 2) := by decide +kernel
theorem dX0_gather_43 : decode cX0_gather 43 = .ok (.iaload, 1) := by decide +kernel
theorem dX0_gather_44 : decode cX0_gather 44 = .ok (.invokestatic 36, 3) := by decide +kernel
theorem dX0_gather_47 : decode cX0_gather 47 = .ok (.iastore, 1) := by decide +kernel
theorem dX0_gather_48 : decode cX0_gather 48 = .ok (.aload_n 0, 1) := by decide +kernel
theorem dX0_gather_49 : decode cX0_gather 49 = .ok (.getfield 15, 3) := by decide +kernel
theorem dX0_gather_52 : decode cX0_gather 52 = .ok (.iload 4, 2) := by decide +kernel
theorem dX0_gather_54 : decode cX0_gather 54 = .ok (.aload_n 1, 1) := by decide +kernel
theorem dX0_gather_55 : decode cX0_gather 55 = .ok (.getfield 31, 3) := by decide +kernel
theorem dX0_gather_58 : decode cX0_gather 58 = .ok (.iload 5, 2) := by decide +kernel
theorem dX0_gather_60 : decode cX0_gather 60 = .ok (.iconst 1, 1) := by decide +kernel
theorem dX0_gather_61 : decode cX0_gather 61 = .ok (.iadd, 1) := by decide +kernel
theorem dX0_gather_62 : decode cX0_gather 62 = .ok (.iaload, 1) := by decide +kernel
theorem dX0_gather_63 : decode cX0_gather 63 = .ok (.bipush 48, 2) := by decide +kernel
theorem dX0_gather_65 : decode cX0_gather 65 = .ok (.isub, 1) := by decide +kernel
theorem dX0_gather_66 : decode cX0_gather 66 = .ok (.iastore, 1) := by decide +kernel
theorem dX0_gather_67 : decode cX0_gather 67 = .ok (.aload_n 0, 1) := by decide +kernel
theorem dX0_gather_68 : decode cX0_gather 68 = .ok (.getfield 18, 3) := by decide +kernel
theorem dX0_gather_71 : decode cX0_gather 71 = .ok (.iload 4, 2) := by decide +kernel
theorem dX0_gather_73 : decode cX0_gather 73 = .ok (.aload_n 1, 1) := by decide +kernel
theorem dX0_gather_74 : decode cX0_gather 74 = .ok (.getfield 31, 3) := by decide +kernel
theorem dX0_gather_77 : decode cX0_gather 77 = .ok (.iload 5, 2) := by decide +kernel
theorem dX0_gather_79 : decode cX0_gather 79 = .ok (.iconst 2, 1) := by decide +kernel
theorem dX0_gather_80 : decode cX0_gather 80 = .ok (.iadd, 1) := by decide +kernel
theorem dX0_gather_81 : decode cX0_gather 81 = .ok (.iaload, 1) := by decide +kernel
theorem dX0_gather_82 : decode cX0_gather 82 = .ok (.bipush 48, 2) := by decide +kernel
theorem dX0_gather_84 : decode cX0_gather 84 = .ok (.isub, 1) := by decide +kernel
theorem dX0_gather_85 : decode cX0_gather 85 = .ok (.iastore, 1) := by decide +kernel
theorem dX0_gather_86 : decode cX0_gather 86 = .ok (.iinc 4 1, 3) := by decide +kernel
theorem dX0_gather_89 : decode cX0_gather 89 = .ok (.goto (-77), 3) := by decide +kernel
theorem dX0_gather_92 : decode cX0_gather 92 = .ok (.return_, 1) := by decide +kernel
set_option maxRecDepth 20000 in
theorem S_X0_gather_0 {g : GG} {d : Nat} {F : St → Prop} {k : Nat} (hk : k < 4) (a2 : Int32) (a3 : Int32) (σ : St) (h : VM g (d + 1) M_X0_gather (qV F) 12 [(0, vR 10), (1, vR (2 + k)), (2, vI a2), (3, vI a3), (4, vI 0)] [] (sU σ 10 3 (if 5 < a3 then 5 else a3))) : VM g (d + 1) M_X0_gather (qV F) 0 [(0, vR 10), (1, vR (2 + k)), (2, vI a2), (3, vI a3)] [] σ := by
  refine VE_aload_n 0 dX0_gather_0 (k := ?_)
  refine VE_iload_n 3 dX0_gather_1 (k := ?_)
  refine VE_iconst 5 dX0_gather_2 (k := ?_)
  refine VE_min (i1 := 224) (i2 := 225) (i3 := 53) (i4 := 226) dX0_gather_3 ⟨by decide +kernel, rfl⟩ ⟨by decide +kernel, rfl⟩ ⟨by decide +kernel, rfl⟩ ⟨by decide +kernel, rfl⟩ (rok2 d) rfl ?_
  refine VE_put dX0_gather_6 fl_X0_21 ?_
  refine VE_iconst 0 dX0_gather_9 (k := ?_)
  refine VE_istore (ls' := [(4, vI 0), (0, vR 10), (1, vR (2 + k)), (2, vI a2), (3, vI a3)]) dX0_gather_10 ?_
  exact VE_sub [1, 2, 3, 4, 0] rfl h
set_option maxRecDepth 20000 in
theorem S_X0_gather_12 {g : GG} {d : Nat} {F : St → Prop} {k : Nat} (hk : k < 4) (x2 : Int32) (x3 : Int32) (x4 : Int32) (σ : St) (h : (((σ 10 3) ≤ x4 → F σ) ∧ (¬ (σ 10 3) ≤ x4 → (vp_in ((x2 + (x4 * 4)) + 2) 60 ∧ (ME g d M_X4_kindOfLetter [vI (σ (6 + k) (((x2 + (x4 * 4)) + 2).toNatClampNeg))] σ (qI (fun r2 σ3 => (vp_in x4 5 ∧ (vp_in (((x2 + (x4 * 4)) + 2) + 1) 60 ∧ (vp_in (((x2 + (x4 * 4)) + 2) + 2) 60 ∧ VM g (d + 1) M_X0_gather (qV F) 12 [(0, vR 10), (1, vR (2 + k)), (2, vI x2), (3, vI x3), (4, vI (x4 + 1))] [] (sU (sU (sU σ3 11 x4.toNatClampNeg r2) 12 x4.toNatClampNeg (((sU σ3 11 x4.toNatClampNeg r2) (6 + k) ((((x2 + (x4 * 4)) + 2) + 1).toNatClampNeg)) - 48)) 13 x4.toNatClampNeg (((sU (sU σ3 11 x4.toNatClampNeg r2) 12 x4.toNatClampNeg (((sU σ3 11 x4.toNatClampNeg r2) (6 + k) ((((x2 + (x4 * 4)) + 2) + 1).toNatClampNeg)) - 48)) (6 + k) ((((x2 + (x4 * 4)) + 2) + 2).toNatClampNeg)) - 48)))))))))))) : VM g (d + 1) M_X0_gather (qV F) 12 [(0, vR 10), (1, vR (2 + k)), (2, vI x2), (3, vI x3), (4, vI x4)] [] σ := by
  refine VE_iload 4 dX0_gather_12 (k := ?_)
  refine VE_aload_n 0 dX0_gather_14 (k := ?_)
  refine VE_getI dX0_gather_15 fl_X0_21 ?_
  refine VE_icmp_ge 92 dX0_gather_18 (fun c1 => ?_) (fun c1 => ?_)
  · exact VM_vret dX0_gather_92 (h.1 c1)
  · refine VE_iload_n 2 dX0_gather_21 (k := ?_)
    refine VE_iload 4 dX0_gather_22 (k := ?_)
    refine VE_iconst 4 dX0_gather_24 (k := ?_)
    refine VE_imul dX0_gather_25 ?_
    refine VE_iadd dX0_gather_26 ?_
    refine VE_iconst 2 dX0_gather_27 (k := ?_)
    refine VE_iadd dX0_gather_28 ?_
    refine VE_istore (ls' := [(5, vI ((x2 + (x4 * 4)) + 2)), (0, vR 10), (1, vR (2 + k)), (2, vI x2), (3, vI x3), (4, vI x4)]) dX0_gather_29 ?_
    refine VE_aload_n 1 dX0_gather_31 (k := ?_)
    refine VE_getR 11 dX0_gather_32 fl_X0_9 ?_
    refine VE_iload 5 dX0_gather_35 (k := ?_)
    refine VE_aload_n 2 dX0_gather_37 (k := ?_)
    refine VE_getR (6 + k) dX0_gather_38 fl_X0_31 ?_ (sh_f0 hk)
    refine VE_iload 0 dX0_gather_41 (k := ?_)
    refine VE_iald dX0_gather_43 (sh_in hk (h.2 c1).1) ?_ (sh_A hk)
    refine VE_cSi [vI (σ (6 + k) (((x2 + (x4 * 4)) + 2).toNatClampNeg))] dX0_gather_44 ml_X0_36 (h.2 c1).2 (fun r2 σ3 h4 => ?_) (rok_D d)
    refine VE_iast dX0_gather_47 h4.1 ?_
    refine VE_aload_n 1 dX0_gather_48 (k := ?_)
    refine VE_getR 12 dX0_gather_49 fl_X0_15 ?_
    refine VE_iload 5 dX0_gather_52 (k := ?_)
    refine VE_aload_n 2 dX0_gather_54 (k := ?_)
    refine VE_getR (6 + k) dX0_gather_55 fl_X0_31 ?_ (sh_f0 hk)
    refine VE_iload 0 dX0_gather_58 (k := ?_)
    refine VE_iconst 1 dX0_gather_60 (k := ?_)
    refine VE_iadd dX0_gather_61 ?_
    refine VE_iald dX0_gather_62 (sh_in hk h4.2.1) ?_ (sh_A hk)
    refine VE_bipush 48 dX0_gather_63 (k := ?_)
    refine VE_isub dX0_gather_65 ?_
    refine VE_iast dX0_gather_66 h4.1 ?_
    refine VE_aload_n 1 dX0_gather_67 (k := ?_)
    refine VE_getR 13 dX0_gather_68 fl_X0_18 ?_
    refine VE_iload 5 dX0_gather_71 (k := ?_)
    refine VE_aload_n 2 dX0_gather_73 (k := ?_)
    refine VE_getR (6 + k) dX0_gather_74 fl_X0_31 ?_ (sh_f0 hk)
    refine VE_iload 0 dX0_gather_77 (k := ?_)
    refine VE_iconst 2 dX0_gather_79 (k := ?_)
    refine VE_iadd dX0_gather_80 ?_
    refine VE_iald dX0_gather_81 (sh_in hk h4.2.2.1) ?_ (sh_A hk)
    refine VE_bipush 48 dX0_gather_82 (k := ?_)
    refine VE_isub dX0_gather_84 ?_
    refine VE_iast dX0_gather_85 h4.1 ?_
    refine VE_iinc 5 (x4 + 1) (ls' := [(4, vI (x4 + 1)), (5, vI ((x2 + (x4 * 4)) + 2)), (0, vR 10), (1, vR (2 + k)), (2, vI x2), (3, vI x3)]) dX0_gather_86 ?_
    refine VE_goto 12 dX0_gather_89 ?_
    exact VE_sub [2, 3, 4, 5, 0] rfl h4.2.2.2
theorem dX1_open_0 : decode cX1_open 0 = .ok (.aload_n 0, 1) := by decide +kernel
theorem dX1_open_1 : decode cX1_open 1 = .ok (.aload_n 1, 1) := by decide +kernel
theorem dX1_open_2 : decode cX1_open 2 = .ok (.getfield 25, 3) := by decide +kernel
theorem dX1_open_5 : decode cX1_open 5 = .ok (.putfield 30, 3) := by decide +kernel
theorem dX1_open_8 : decode cX1_open 8 = .ok (.aload_n 0, 1) := by decide +kernel
theorem dX1_open_9 : decode cX1_open 9 = .ok (.bipush (-9), 2) := by decide +kernel
theorem dX1_open_11 : decode cX1_open 11 = .ok (.putfield 21, 3) := by decide +kernel
theorem dX1_open_14 : decode cX1_open 14 = .ok (.iconst 0, 1) := by decide +kernel
theorem dX1_open_15 : decode cX1_open 15 = .ok (.istore_n 2, 1) := by decide +kernel
theorem dX1_open_16 : decode cX1_open 16 = .ok (.iload_n 2, 1) := by decide +kernel
theorem dX1_open_17 : decode cX1_open 17 = .ok (.aload_n 0, 1) := by decide +kernel
theorem dX1_open_18 : decode cX1_open 18 = .ok (.getfield 30, 3) := by decide +kernel
theorem dX1_open_21 : decode cX1_open 21 = .ok (.if_icmp .ge 44, 3) := by decide +kernel
theorem dX1_open_24 : decode cX1_open 24 = .ok (.aload_n 0, 1) := by decide +kernel
theorem dX1_open_25 : decode cX1_open 25 = .ok (.getfield 9, 3) := by decide +kernel
theorem dX1_open_28 : decode cX1_open 28 = .ok (.iload_n 2, 1) := by decide +kernel
theorem dX1_open_29 : decode cX1_open 29 = .ok (.iload_n 2, 1) := by decide +kernel
theorem dX1_open_30 : decode cX1_open 30 = .ok (.iastore, 1) := by decide +kernel
theorem dX1_open_31 : decode cX1_open 31 = .ok (.aload_n 0, 1) := by decide +kernel
theorem dX1_open_32 : decode cX1_open 32 = .ok (.getfield 15, 3) := by decide +kernel
theorem dX1_open_35 : decode cX1_open 35 = .ok (.iload_n 2, 1) := by decide +kernel
theorem dX1_open_36 : decode cX1_open 36 = .ok (.iconst 0, 1) := by decide +kernel
theorem dX1_open_37 : decode cX1_open 37 = .ok (.iastore, 1) := by decide +kernel
theorem dX1_open_38 : decode cX1_open 38 = .ok (.aload_n 0, 1) := by decide +kernel
theorem dX1_open_39 : decode cX1_open 39 = .ok (.getfield 18, 3) := by decide +kernel
theorem dX1_open_42 : decode cX1_open 42 = .ok (.iload_n 2, 1) := by decide +kernel
theorem dX1_open_43 : decode cX1_open 43 = .ok (.aload_n 1, 1) := by decide +kernel
theorem dX1_open_44 : decode cX1_open 44 = .ok (.getfield 33, 3) := by decide +kernel
theorem dX1_open_47 : decode cX1_open 47 = .ok (.iload_n 2, 1) := by decide +kernel
theorem dX1_open_48 : decode cX1_open 48 = .ok (.iaload, 1) := by decide +kernel
theorem dX1_open_49 : decode cX1_open 49 = .ok (.aload_n 1, 1) := by decide +kernel
theorem dX1_open_50 : decode cX1_open 50 = .ok (.getfield 36, 3) := by decide +kernel
theorem dX1_open_53 : decode cX1_open 53 = .ok (.iload_n 2, 1) := by decide +kernel
theorem dX1_open_54 : decode cX1_open 54 = .ok (.iaload, 1) := by decide +kernel
theorem dX1_open_55 : decode cX1_open 55 = .ok (.invokestatic 39, 3) := by decide +kernel
theorem dX1_open_58 : decode cX1_open 58 = .ok (.iastore, 1) := by decide +kernel
theorem dX1_open_59 : decode cX1_open 59 = .ok (.iinc 2 1, 3) := by decide +kernel
theorem dX1_open_62 : decode cX1_open 62 = .ok (.goto (-46), 3) := by decide +kernel
theorem dX1_open_65 : decode cX1_open 65 = .ok (.return_, 1) := by decide +kernel
set_option maxRecDepth 20000 in
theorem S_X1_open_0 {g : GG} {d : Nat} {F : St → Prop}  (σ : St) (h : VM g (d + 1) M_X1_open (qV F) 16 [(0, vR 14), (1, vR 10), (2, vI 0)] [] (sU (sU σ 14 3 (σ 10 3)) 14 4 (-9))) : VM g (d + 1) M_X1_open (qV F) 0 [(0, vR 14), (1, vR 10)] [] σ := by
  refine VE_aload_n 0 dX1_open_0 (k := ?_)
  refine VE_aload_n 1 dX1_open_1 (k := ?_)
  refine VE_getI dX1_open_2 fl_X1_25 ?_
  refine VE_put dX1_open_5 fl_X1_30 ?_
  refine VE_aload_n 0 dX1_open_8 (k := ?_)
  refine VE_bipush (-9) dX1_open_9 (k := ?_)
  refine VE_put dX1_open_11 fl_X1_21 ?_
  refine VE_iconst 0 dX1_open_14 (k := ?_)
  refine VE_istore_n (ls' := [(2, vI 0), (0, vR 14), (1, vR 10)]) dX1_open_15 ?_
  exact VE_sub [1, 2, 0] rfl h
set_option maxRecDepth 20000 in
theorem S_X1_open_16 {g : GG} {d : Nat} {F : St → Prop} (x2 : Int32) (σ : St) (h : (((σ 14 3) ≤ x2 → F σ) ∧ (¬ (σ 14 3) ≤ x2 → (vp_in x2 5 ∧ (ME g d M_X4_lasting [vI (σ 11 x2.toNatClampNeg), vI (σ 12 x2.toNatClampNeg)] (sU (sU σ 15 x2.toNatClampNeg x2) 16 x2.toNatClampNeg 0) (qI (fun r2 σ3 => VM g (d + 1) M_X1_open (qV F) 16 [(0, vR 14), (1, vR 10), (2, vI (x2 + 1))] [] (sU σ3 17 x2.toNatClampNeg r2)))))))) : VM g (d + 1) M_X1_open (qV F) 16 [(0, vR 14), (1, vR 10), (2, vI x2)] [] σ := by
  refine VE_iload_n 2 dX1_open_16 (k := ?_)
  refine VE_aload_n 0 dX1_open_17 (k := ?_)
  refine VE_getI dX1_open_18 fl_X1_30 ?_
  refine VE_icmp_ge 65 dX1_open_21 (fun c1 => ?_) (fun c1 => ?_)
  · exact VM_vret dX1_open_65 (h.1 c1)
  · refine VE_aload_n 0 dX1_open_24 (k := ?_)
    refine VE_getR 15 dX1_open_25 fl_X1_9 ?_
    refine VE_iload_n 2 dX1_open_28 (k := ?_)
    refine VE_iload_n 2 dX1_open_29 (k := ?_)
    refine VE_iast dX1_open_30 (h.2 c1).1 ?_
    refine VE_aload_n 0 dX1_open_31 (k := ?_)
    refine VE_getR 16 dX1_open_32 fl_X1_15 ?_
    refine VE_iload_n 2 dX1_open_35 (k := ?_)
    refine VE_iconst 0 dX1_open_36 (k := ?_)
    refine VE_iast dX1_open_37 (h.2 c1).1 ?_
    refine VE_aload_n 0 dX1_open_38 (k := ?_)
    refine VE_getR 17 dX1_open_39 fl_X1_18 ?_
    refine VE_iload_n 2 dX1_open_42 (k := ?_)
    refine VE_aload_n 1 dX1_open_43 (k := ?_)
    refine VE_getR 11 dX1_open_44 fl_X1_33 ?_
    refine VE_iload_n 2 dX1_open_47 (k := ?_)
    refine VE_iald dX1_open_48 (h.2 c1).1 ?_
    refine VE_aload_n 1 dX1_open_49 (k := ?_)
    refine VE_getR 12 dX1_open_50 fl_X1_36 ?_
    refine VE_iload_n 2 dX1_open_53 (k := ?_)
    refine VE_iald dX1_open_54 (h.2 c1).1 ?_
    refine VE_cSi [vI (σ 11 x2.toNatClampNeg), vI (σ 12 x2.toNatClampNeg)] dX1_open_55 ml_X1_39 (h.2 c1).2 (fun r2 σ3 h4 => ?_) (rok_D d)
    refine VE_iast dX1_open_58 (h.2 c1).1 ?_
    refine VE_iinc 2 (x2 + 1) (ls' := [(2, vI (x2 + 1)), (0, vR 14), (1, vR 10)]) dX1_open_59 ?_
    refine VE_goto 16 dX1_open_62 ?_
    exact VE_sub [1, 2, 0] rfl h4
theorem dX1_receives_0 : decode cX1_receives 0 = .ok (.aload_n 0, 1) := by decide +kernel
theorem dX1_receives_1 : decode cX1_receives 1 = .ok (.getfield 21, 3) := by decide +kernel
theorem dX1_receives_4 : decode cX1_receives 4 = .ok (.bipush (-9), 2) := by decide +kernel
theorem dX1_receives_6 : decode cX1_receives 6 = .ok (.if_icmp .eq 39, 3) := by decide +kernel
theorem dX1_receives_9 : decode cX1_receives 9 = .ok (.aload_n 0, 1) := by decide +kernel
theorem dX1_receives_10 : decode cX1_receives 10 = .ok (.getfield 15, 3) := by decide +kernel
theorem dX1_receives_13 : decode cX1_receives 13 = .ok (.aload_n 0, 1) := by decide +kernel
theorem dX1_receives_14 : decode cX1_receives 14 = .ok (.getfield 21, 3) := by decide +kernel
theorem dX1_receives_17 : decode cX1_receives 17 = .ok (.iaload, 1) := by decide +kernel
theorem dX1_receives_18 : decode cX1_receives 18 = .ok (.aload_n 0, 1) := by decide +kernel
theorem dX1_receives_19 : decode cX1_receives 19 = .ok (.getfield 18, 3) := by decide +kernel
theorem dX1_receives_22 : decode cX1_receives 22 = .ok (.aload_n 0, 1) := by decide +kernel
theorem dX1_receives_23 : decode cX1_receives 23 = .ok (.getfield 21, 3) := by decide +kernel
theorem dX1_receives_26 : decode cX1_receives 26 = .ok (.iaload, 1) := by decide +kernel
theorem dX1_receives_27 : decode cX1_receives 27 = .ok (.if_icmp .lt 5, 3) := by decide +kernel
theorem dX1_receives_30 : decode cX1_receives 30 = .ok (.iconst 0, 1) := by decide +kernel
theorem dX1_receives_31 : decode cX1_receives 31 = .ok (.ireturn, 1) := by decide +kernel
theorem dX1_receives_32 : decode cX1_receives 32 = .ok (.aload_n 0, 1) := by decide +kernel
theorem dX1_receives_33 : decode cX1_receives 33 = .ok (.getfield 15, 3) := by decide +kernel
theorem dX1_receives_36 : decode cX1_receives 36 = .ok (.aload_n 0, 1) := by decide +kernel
theorem dX1_receives_37 : decode cX1_receives 37 = .ok (.getfield 21, 3) := by decide +kernel
theorem dX1_receives_40 : decode cX1_receives 40 = .ok (.dup2, 1) := by decide +kernel
theorem dX1_receives_41 : decode cX1_receives 41 = .ok (.iaload, 1) := by decide +kernel
theorem dX1_receives_42 : decode cX1_receives 42 = .ok (.iconst 1, 1) := by decide +kernel
theorem dX1_receives_43 : decode cX1_receives 43 = .ok (.iadd, 1) := by decide +kernel
theorem dX1_receives_44 : decode cX1_receives 44 = .ok (.iastore, 1) := by decide +kernel
theorem dX1_receives_45 : decode cX1_receives 45 = .ok (.aload_n 0, 1) := by decide +kernel
theorem dX1_receives_46 : decode cX1_receives 46 = .ok (.iload_n 1, 1) := by decide +kernel
theorem dX1_receives_47 : decode cX1_receives 47 = .ok (.invokevirtual 43, 3) := by decide +kernel
theorem dX1_receives_50 : decode cX1_receives 50 = .ok (.iconst 1, 1) := by decide +kernel
theorem dX1_receives_51 : decode cX1_receives 51 = .ok (.ireturn, 1) := by decide +kernel
set_option maxRecDepth 20000 in
theorem S_X1_receives_0 {g : GG} {d : Nat} {F : Int32 → St → Prop} (a1 : Int32) (σ : St) (h : (((σ 14 4) = (-9) → (ME g d M_X1_changePlaces [vR 14, vI a1] σ (qV (fun σ3 => F 1 σ3)))) ∧ (¬ (σ 14 4) = (-9) → (vp_in (σ 14 4) 5 ∧ (((σ 16 ((σ 14 4).toNatClampNeg)) < (σ 17 ((σ 14 4).toNatClampNeg)) → (ME g d M_X1_changePlaces [vR 14, vI a1] (sU σ 16 ((σ 14 4).toNatClampNeg) ((σ 16 ((σ 14 4).toNatClampNeg)) + 1)) (qV (fun σ7 => F 1 σ7)))) ∧ (¬ (σ 16 ((σ 14 4).toNatClampNeg)) < (σ 17 ((σ 14 4).toNatClampNeg)) → F 0 σ)))))) : VM g (d + 1) M_X1_receives (qI F) 0 [(0, vR 14), (1, vI a1)] [] σ := by
  refine VE_aload_n 0 dX1_receives_0 (k := ?_)
  refine VE_getI dX1_receives_1 fl_X1_21 ?_
  refine VE_bipush (-9) dX1_receives_4 (k := ?_)
  refine VE_icmp_eq 45 dX1_receives_6 (fun c1 => ?_) (fun c1 => ?_)
  · refine VE_aload_n 0 dX1_receives_45 (k := ?_)
    refine VE_iload_n 1 dX1_receives_46 (k := ?_)
    refine VE_cVv [vI a1] dX1_receives_47 ml_X1_43 (h.1 c1) (fun σ3 h4 => ?_) (rok_D d)
    refine VE_iconst 1 dX1_receives_50 (k := ?_)
    exact VM_zret dX1_receives_51 h4 (by decide)
  · refine VE_aload_n 0 dX1_receives_9 (k := ?_)
    refine VE_getR 16 dX1_receives_10 fl_X1_15 ?_
    refine VE_aload_n 0 dX1_receives_13 (k := ?_)
    refine VE_getI dX1_receives_14 fl_X1_21 ?_
    refine VE_iald dX1_receives_17 (h.2 c1).1 ?_
    refine VE_aload_n 0 dX1_receives_18 (k := ?_)
    refine VE_getR 17 dX1_receives_19 fl_X1_18 ?_
    refine VE_aload_n 0 dX1_receives_22 (k := ?_)
    refine VE_getI dX1_receives_23 fl_X1_21 ?_
    refine VE_iald dX1_receives_26 (h.2 c1).1 ?_
    refine VE_icmp_lt 32 dX1_receives_27 (fun c5 => ?_) (fun c5 => ?_)
    · refine VE_aload_n 0 dX1_receives_32 (k := ?_)
      refine VE_getR 16 dX1_receives_33 fl_X1_15 ?_
      refine VE_aload_n 0 dX1_receives_36 (k := ?_)
      refine VE_getI dX1_receives_37 fl_X1_21 ?_
      refine VE_dup2 dX1_receives_40 (k := ?_)
      refine VE_iald dX1_receives_41 (h.2 c1).1 ?_
      refine VE_iconst 1 dX1_receives_42 (k := ?_)
      refine VE_iadd dX1_receives_43 ?_
      refine VE_iast dX1_receives_44 (h.2 c1).1 ?_
      refine VE_aload_n 0 dX1_receives_45 (k := ?_)
      refine VE_iload_n 1 dX1_receives_46 (k := ?_)
      refine VE_cVv [vI a1] dX1_receives_47 ml_X1_43 ((h.2 c1).2.1 c5) (fun σ7 h8 => ?_) (rok_D d)
      refine VE_iconst 1 dX1_receives_50 (k := ?_)
      exact VM_zret dX1_receives_51 h8 (by decide)
    · refine VE_iconst 0 dX1_receives_30 (k := ?_)
      exact VM_zret dX1_receives_31 ((h.2 c1).2.2 c5) (by decide)
theorem dX1_takesBack_0 : decode cX1_takesBack 0 = .ok (.aload_n 0, 1) := by decide +kernel
theorem dX1_takesBack_1 : decode cX1_takesBack 1 = .ok (.iload_n 1, 1) := by decide +kernel
theorem dX1_takesBack_2 : decode cX1_takesBack 2 = .ok (.invokevirtual 43, 3) := by decide +kernel
theorem dX1_takesBack_5 : decode cX1_takesBack 5 = .ok (.aload_n 0, 1) := by decide +kernel
theorem dX1_takesBack_6 : decode cX1_takesBack 6 = .ok (.getfield 21, 3) := by decide +kernel
theorem dX1_takesBack_9 : decode cX1_takesBack 9 = .ok (.bipush (-9), 2) := by decide +kernel
theorem dX1_takesBack_11 : decode cX1_takesBack 11 = .ok (.if_icmp .eq 16, 3) := by decide +kernel
theorem dX1_takesBack_14 : decode cX1_takesBack 14 = .ok (.aload_n 0, 1) := by decide +kernel
theorem dX1_takesBack_15 : decode cX1_takesBack 15 = .ok (.getfield 15, 3) := by decide +kernel
theorem dX1_takesBack_18 : decode cX1_takesBack 18 = .ok (.aload_n 0, 1) := by decide +kernel
theorem dX1_takesBack_19 : decode cX1_takesBack 19 = .ok (.getfield 21, 3) := by decide +kernel
theorem dX1_takesBack_22 : decode cX1_takesBack 22 = .ok (.dup2, 1) := by decide +kernel
theorem dX1_takesBack_23 : decode cX1_takesBack 23 = .ok (.iaload, 1) := by decide +kernel
theorem dX1_takesBack_24 : decode cX1_takesBack 24 = .ok (.iconst 1, 1) := by decide +kernel
theorem dX1_takesBack_25 : decode cX1_takesBack 25 = .ok (.isub, 1) := by decide +kernel
theorem dX1_takesBack_26 : decode cX1_takesBack 26 = .ok (.iastore, 1) := by decide +kernel
theorem dX1_takesBack_27 : decode cX1_takesBack 27 = .ok (.return_, 1) := by decide +kernel
set_option maxRecDepth 20000 in
theorem S_X1_takesBack_0 {g : GG} {d : Nat} {F : St → Prop} (a1 : Int32) (σ : St) (h : (ME g d M_X1_changePlaces [vR 14, vI a1] σ (qV (fun σ2 => (((σ2 14 4) = (-9) → F σ2) ∧ (¬ (σ2 14 4) = (-9) → (vp_in (σ2 14 4) 5 ∧ F (sU σ2 16 ((σ2 14 4).toNatClampNeg) ((σ2 16 ((σ2 14 4).toNatClampNeg)) - 1))))))))) : VM g (d + 1) M_X1_takesBack (qV F) 0 [(0, vR 14), (1, vI a1)] [] σ := by
  refine VE_aload_n 0 dX1_takesBack_0 (k := ?_)
  refine VE_iload_n 1 dX1_takesBack_1 (k := ?_)
  refine VE_cVv [vI a1] dX1_takesBack_2 ml_X1_43 h (fun σ2 h3 => ?_) (rok_D d)
  refine VE_aload_n 0 dX1_takesBack_5 (k := ?_)
  refine VE_getI dX1_takesBack_6 fl_X1_21 ?_
  refine VE_bipush (-9) dX1_takesBack_9 (k := ?_)
  refine VE_icmp_eq 27 dX1_takesBack_11 (fun c4 => ?_) (fun c4 => ?_)
  · exact VM_vret dX1_takesBack_27 (h3.1 c4)
  · refine VE_aload_n 0 dX1_takesBack_14 (k := ?_)
    refine VE_getR 16 dX1_takesBack_15 fl_X1_15 ?_
    refine VE_aload_n 0 dX1_takesBack_18 (k := ?_)
    refine VE_getI dX1_takesBack_19 fl_X1_21 ?_
    refine VE_dup2 dX1_takesBack_22 (k := ?_)
    refine VE_iald dX1_takesBack_23 (h3.2 c4).1 ?_
    refine VE_iconst 1 dX1_takesBack_24 (k := ?_)
    refine VE_isub dX1_takesBack_25 ?_
    refine VE_iast dX1_takesBack_26 (h3.2 c4).1 ?_
    exact VM_vret dX1_takesBack_27 (h3.2 c4).2
theorem dX1_changePlaces_0 : decode cX1_changePlaces 0 = .ok (.aload_n 0, 1) := by decide +kernel
theorem dX1_changePlaces_1 : decode cX1_changePlaces 1 = .ok (.getfield 9, 3) := by decide +kernel
theorem dX1_changePlaces_4 : decode cX1_changePlaces 4 = .ok (.iload_n 1, 1) := by decide +kernel
theorem dX1_changePlaces_5 : decode cX1_changePlaces 5 = .ok (.iaload, 1) := by decide +kernel
theorem dX1_changePlaces_6 : decode cX1_changePlaces 6 = .ok (.istore_n 2, 1) := by decide +kernel
theorem dX1_changePlaces_7 : decode cX1_changePlaces 7 = .ok (.aload_n 0, 1) := by decide +kernel
theorem dX1_changePlaces_8 : decode cX1_changePlaces 8 = .ok (.getfield 9, 3) := by decide +kernel
theorem dX1_changePlaces_11 : decode cX1_changePlaces 11 = .ok (.iload_n 1, 1) := by decide +kernel
theorem dX1_changePlaces_12 : decode cX1_changePlaces 12 = .ok (.aload_n 0, 1) := by decide +kernel
theorem dX1_changePlaces_13 : decode cX1_changePlaces 13 = .ok (.getfield 21, 3) := by decide +kernel
theorem dX1_changePlaces_16 : decode cX1_changePlaces 16 = .ok (.iastore, 1) := by decide +kernel
theorem dX1_changePlaces_17 : decode cX1_changePlaces 17 = .ok (.aload_n 0, 1) := by decide +kernel
theorem dX1_changePlaces_18 : decode cX1_changePlaces 18 = .ok (.iload_n 2, 1) := by decide +kernel
theorem dX1_changePlaces_19 : decode cX1_changePlaces 19 = .ok (.putfield 21, 3) := by decide +kernel
theorem dX1_changePlaces_22 : decode cX1_changePlaces 22 = .ok (.return_, 1) := by decide +kernel
set_option maxRecDepth 20000 in
theorem S_X1_changePlaces_0 {g : GG} {d : Nat} {F : St → Prop} (a1 : Int32) (σ : St) (h : (vp_in a1 5 ∧ F (sU (sU σ 15 a1.toNatClampNeg (σ 14 4)) 14 4 (σ 15 a1.toNatClampNeg)))) : VM g d M_X1_changePlaces (qV F) 0 [(0, vR 14), (1, vI a1)] [] σ := by
  refine VE_aload_n 0 dX1_changePlaces_0 (k := ?_)
  refine VE_getR 15 dX1_changePlaces_1 fl_X1_9 ?_
  refine VE_iload_n 1 dX1_changePlaces_4 (k := ?_)
  refine VE_iald dX1_changePlaces_5 h.1 ?_
  refine VE_istore_n (ls' := [(2, vI (σ 15 a1.toNatClampNeg)), (0, vR 14), (1, vI a1)]) dX1_changePlaces_6 ?_
  refine VE_aload_n 1 dX1_changePlaces_7 (k := ?_)
  refine VE_getR 15 dX1_changePlaces_8 fl_X1_9 ?_
  refine VE_iload_n 2 dX1_changePlaces_11 (k := ?_)
  refine VE_aload_n 1 dX1_changePlaces_12 (k := ?_)
  refine VE_getI dX1_changePlaces_13 fl_X1_21 ?_
  refine VE_iast dX1_changePlaces_16 h.1 ?_
  refine VE_aload_n 1 dX1_changePlaces_17 (k := ?_)
  refine VE_iload_n 0 dX1_changePlaces_18 (k := ?_)
  refine VE_put dX1_changePlaces_19 fl_X1_21 ?_
  exact VM_vret dX1_changePlaces_22 h.2
theorem dX1_ownWearers_0 : decode cX1_ownWearers 0 = .ok (.iconst 0, 1) := by decide +kernel
theorem dX1_ownWearers_1 : decode cX1_ownWearers 1 = .ok (.istore_n 1, 1) := by decide +kernel
theorem dX1_ownWearers_2 : decode cX1_ownWearers 2 = .ok (.iconst 0, 1) := by decide +kernel
theorem dX1_ownWearers_3 : decode cX1_ownWearers 3 = .ok (.istore_n 2, 1) := by decide +kernel
theorem dX1_ownWearers_4 : decode cX1_ownWearers 4 = .ok (.iload_n 2, 1) := by decide +kernel
theorem dX1_ownWearers_5 : decode cX1_ownWearers 5 = .ok (.aload_n 0, 1) := by decide +kernel
theorem dX1_ownWearers_6 : decode cX1_ownWearers 6 = .ok (.getfield 30, 3) := by decide +kernel
theorem dX1_ownWearers_9 : decode cX1_ownWearers 9 = .ok (.if_icmp .ge 25, 3) := by decide +kernel
theorem dX1_ownWearers_12 : decode cX1_ownWearers 12 = .ok (.aload_n 0, 1) := by decide +kernel
theorem dX1_ownWearers_13 : decode cX1_ownWearers 13 = .ok (.getfield 9, 3) := by decide +kernel
theorem dX1_ownWearers_16 : decode cX1_ownWearers 16 = .ok (.iload_n 2, 1) := by decide +kernel
theorem dX1_ownWearers_17 : decode cX1_ownWearers 17 = .ok (.iaload, 1) := by decide +kernel
theorem dX1_ownWearers_18 : decode cX1_ownWearers 18 = .ok (.iload_n 2, 1) := by decide +kernel
theorem dX1_ownWearers_19 : decode cX1_ownWearers 19 = .ok (.if_icmp .ne 9, 3) := by decide +kernel
theorem dX1_ownWearers_22 : decode cX1_ownWearers 22 = .ok (.iload_n 1, 1) := by decide +kernel
theorem dX1_ownWearers_23 : decode cX1_ownWearers 23 = .ok (.iconst 1, 1) := by decide +kernel
theorem dX1_ownWearers_24 : decode cX1_ownWearers 24 = .ok (.iload_n 2, 1) := by decide +kernel
theorem dX1_ownWearers_25 : decode cX1_ownWearers 25 = .ok (.ishl, 1) := by decide +kernel
theorem dX1_ownWearers_26 : decode cX1_ownWearers 26 = .ok (.ior, 1) := by decide +kernel
theorem dX1_ownWearers_27 : decode cX1_ownWearers 27 = .ok (.istore_n 1, 1) := by decide +kernel
theorem dX1_ownWearers_28 : decode cX1_ownWearers 28 = .ok (.iinc 2 1, 3) := by decide +kernel
theorem dX1_ownWearers_31 : decode cX1_ownWearers 31 = .ok (.goto (-27), 3) := by decide +kernel
theorem dX1_ownWearers_34 : decode cX1_ownWearers 34 = .ok (.iload_n 1, 1) := by decide +kernel
theorem dX1_ownWearers_35 : decode cX1_ownWearers 35 = .ok (.ireturn, 1) := by decide +kernel
set_option maxRecDepth 20000 in
theorem S_X1_ownWearers_0 {g : GG} {d : Nat} {F : Int32 → St → Prop}  (σ : St) (h : VM g d M_X1_ownWearers (qI F) 4 [(0, vR 14), (1, vI 0), (2, vI 0)] [] σ) : VM g d M_X1_ownWearers (qI F) 0 [(0, vR 14)] [] σ := by
  refine VE_iconst 0 dX1_ownWearers_0 (k := ?_)
  refine VE_istore_n (ls' := [(1, vI 0), (0, vR 14)]) dX1_ownWearers_1 ?_
  refine VE_iconst 0 dX1_ownWearers_2 (k := ?_)
  refine VE_istore_n (ls' := [(2, vI 0), (1, vI 0), (0, vR 14)]) dX1_ownWearers_3 ?_
  exact VE_sub [2, 1, 0] rfl h
set_option maxRecDepth 20000 in
theorem S_X1_ownWearers_4 {g : GG} {d : Nat} {F : Int32 → St → Prop} (x1 : Int32) (x2 : Int32) (σ : St) (h : (((σ 14 3) ≤ x2 → F x1 σ) ∧ (¬ (σ 14 3) ≤ x2 → (vp_in x2 5 ∧ ((¬ (σ 15 x2.toNatClampNeg) = x2 → VM g d M_X1_ownWearers (qI F) 4 [(0, vR 14), (1, vI x1), (2, vI (x2 + 1))] [] σ) ∧ ((σ 15 x2.toNatClampNeg) = x2 → VM g d M_X1_ownWearers (qI F) 4 [(0, vR 14), (1, vI (x1 ||| (1 <<< (x2 &&& 31)))), (2, vI (x2 + 1))] [] σ)))))) : VM g d M_X1_ownWearers (qI F) 4 [(0, vR 14), (1, vI x1), (2, vI x2)] [] σ := by
  refine VE_iload_n 2 dX1_ownWearers_4 (k := ?_)
  refine VE_aload_n 0 dX1_ownWearers_5 (k := ?_)
  refine VE_getI dX1_ownWearers_6 fl_X1_30 ?_
  refine VE_icmp_ge 34 dX1_ownWearers_9 (fun c1 => ?_) (fun c1 => ?_)
  · refine VE_iload_n 1 dX1_ownWearers_34 (k := ?_)
    exact VM_iret dX1_ownWearers_35 (h.1 c1)
  · refine VE_aload_n 0 dX1_ownWearers_12 (k := ?_)
    refine VE_getR 15 dX1_ownWearers_13 fl_X1_9 ?_
    refine VE_iload_n 2 dX1_ownWearers_16 (k := ?_)
    refine VE_iald dX1_ownWearers_17 (h.2 c1).1 ?_
    refine VE_iload_n 2 dX1_ownWearers_18 (k := ?_)
    refine VE_icmp_ne 28 dX1_ownWearers_19 (fun c2 => ?_) (fun c2 => ?_)
    · refine VE_iinc 2 (x2 + 1) (ls' := [(2, vI (x2 + 1)), (0, vR 14), (1, vI x1)]) dX1_ownWearers_28 ?_
      refine VE_goto 4 dX1_ownWearers_31 ?_
      exact VE_sub [1, 2, 0] rfl ((h.2 c1).2.1 c2)
    · refine VE_iload_n 1 dX1_ownWearers_22 (k := ?_)
      refine VE_iconst 1 dX1_ownWearers_23 (k := ?_)
      refine VE_iload_n 2 dX1_ownWearers_24 (k := ?_)
      refine VE_ishl dX1_ownWearers_25 ?_
      refine VE_ior dX1_ownWearers_26 ?_
      refine VE_istore_n (ls' := [(1, vI (x1 ||| (1 <<< (x2 &&& 31)))), (0, vR 14), (2, vI x2)]) dX1_ownWearers_27 ?_
      refine VE_iinc 2 (x2 + 1) (ls' := [(2, vI (x2 + 1)), (1, vI (x1 ||| (1 <<< (x2 &&& 31)))), (0, vR 14)]) dX1_ownWearers_28 ?_
      refine VE_goto 4 dX1_ownWearers_31 ?_
      exact VE_sub [2, 1, 0] rfl ((h.2 c1).2.2 c2)
theorem dX1_visitsHome_0 : decode cX1_visitsHome 0 = .ok (.iconst 0, 1) := by decide +kernel
theorem dX1_visitsHome_1 : decode cX1_visitsHome 1 = .ok (.istore_n 1, 1) := by decide +kernel
theorem dX1_visitsHome_2 : decode cX1_visitsHome 2 = .ok (.iload_n 1, 1) := by decide +kernel
theorem dX1_visitsHome_3 : decode cX1_visitsHome 3 = .ok (.bipush 10, 2) := by decide +kernel
theorem dX1_visitsHome_5 : decode cX1_visitsHome 5 = .ok (.if_icmp .ge 43, 3) := by decide +kernel
theorem dX1_visitsHome_8 : decode cX1_visitsHome 8 = .ok (.aload_n 0, 1) := by decide +kernel
theorem dX1_visitsHome_9 : decode cX1_visitsHome 9 = .ok (.getfield 21, 3) := by decide +kernel
theorem dX1_visitsHome_12 : decode cX1_visitsHome 12 = .ok (.bipush (-9), 2) := by decide +kernel
theorem dX1_visitsHome_14 : decode cX1_visitsHome 14 = .ok (.if_icmp .eq 10, 3) := by decide +kernel
theorem dX1_visitsHome_17 : decode cX1_visitsHome 17 = .ok (.aload_n 0, 1) := by decide +kernel
theorem dX1_visitsHome_18 : decode cX1_visitsHome 18 = .ok (.getfield 21, 3) := by decide +kernel
theorem dX1_visitsHome_21 : decode cX1_visitsHome 21 = .ok (.goto 7, 3) := by decide +kernel
theorem dX1_visitsHome_24 : decode cX1_visitsHome 24 = .ok (.aload_n 0, 1) := by decide +kernel
theorem dX1_visitsHome_25 : decode cX1_visitsHome 25 = .ok (.invokevirtual 47, 3) := by decide +kernel
theorem dX1_visitsHome_28 : decode cX1_visitsHome 28 = .ok (.istore_n 2, 1) := by decide +kernel
theorem dX1_visitsHome_29 : decode cX1_visitsHome 29 = .ok (.iload_n 2, 1) := by decide +kernel
theorem dX1_visitsHome_30 : decode cX1_visitsHome 30 = .ok (.bipush (-9), 2) := by decide +kernel
theorem dX1_visitsHome_32 : decode cX1_visitsHome 32 = .ok (.if_icmp .ne 5, 3) := by decide +kernel
theorem dX1_visitsHome_35 : decode cX1_visitsHome 35 = .ok (.iload_n 1, 1) := by decide +kernel
theorem dX1_visitsHome_36 : decode cX1_visitsHome 36 = .ok (.ireturn, 1) := by decide +kernel
theorem dX1_visitsHome_37 : decode cX1_visitsHome 37 = .ok (.aload_n 0, 1) := by decide +kernel
theorem dX1_visitsHome_38 : decode cX1_visitsHome 38 = .ok (.iload_n 2, 1) := by decide +kernel
theorem dX1_visitsHome_39 : decode cX1_visitsHome 39 = .ok (.invokevirtual 43, 3) := by decide +kernel
theorem dX1_visitsHome_42 : decode cX1_visitsHome 42 = .ok (.iinc 1 1, 3) := by decide +kernel
theorem dX1_visitsHome_45 : decode cX1_visitsHome 45 = .ok (.goto (-43), 3) := by decide +kernel
theorem dX1_visitsHome_48 : decode cX1_visitsHome 48 = .ok (.bipush 10, 2) := by decide +kernel
theorem dX1_visitsHome_50 : decode cX1_visitsHome 50 = .ok (.ireturn, 1) := by decide +kernel
set_option maxRecDepth 20000 in
theorem S_X1_visitsHome_0 {g : GG} {d : Nat} {F : Int32 → St → Prop}  (σ : St) (h : VM g (d + 1) M_X1_visitsHome (qI F) 2 [(0, vR 14), (1, vI 0)] [] σ) : VM g (d + 1) M_X1_visitsHome (qI F) 0 [(0, vR 14)] [] σ := by
  refine VE_iconst 0 dX1_visitsHome_0 (k := ?_)
  refine VE_istore_n (ls' := [(1, vI 0), (0, vR 14)]) dX1_visitsHome_1 ?_
  exact VE_sub [1, 0] rfl h
set_option maxRecDepth 20000 in
theorem S_X1_visitsHome_2 {g : GG} {d : Nat} {F : Int32 → St → Prop} (x1 : Int32) (σ : St) (h : ((10 ≤ x1 → F 10 σ) ∧ (¬ 10 ≤ x1 → (((σ 14 4) = (-9) → (ME g d M_X1_firstAstray [vR 14] σ (qI (fun r3 σ4 => ((¬ r3 = (-9) → (ME g d M_X1_changePlaces [vR 14, vI r3] σ4 (qV (fun σ8 => VM g (d + 1) M_X1_visitsHome (qI F) 2 [(0, vR 14), (1, vI (x1 + 1))] [] σ8)))) ∧ (r3 = (-9) → F x1 σ4)))))) ∧ (¬ (σ 14 4) = (-9) → ((¬ (σ 14 4) = (-9) → (ME g d M_X1_changePlaces [vR 14, vI (σ 14 4)] σ (qV (fun σ12 => VM g (d + 1) M_X1_visitsHome (qI F) 2 [(0, vR 14), (1, vI (x1 + 1))] [] σ12)))) ∧ ((σ 14 4) = (-9) → F x1 σ))))))) : VM g (d + 1) M_X1_visitsHome (qI F) 2 [(0, vR 14), (1, vI x1)] [] σ := by
  refine VE_iload_n 1 dX1_visitsHome_2 (k := ?_)
  refine VE_bipush 10 dX1_visitsHome_3 (k := ?_)
  refine VE_icmp_ge 48 dX1_visitsHome_5 (fun c1 => ?_) (fun c1 => ?_)
  · refine VE_bipush 10 dX1_visitsHome_48 (k := ?_)
    exact VM_iret dX1_visitsHome_50 (h.1 c1)
  · refine VE_aload_n 0 dX1_visitsHome_8 (k := ?_)
    refine VE_getI dX1_visitsHome_9 fl_X1_21 ?_
    refine VE_bipush (-9) dX1_visitsHome_12 (k := ?_)
    refine VE_icmp_eq 24 dX1_visitsHome_14 (fun c2 => ?_) (fun c2 => ?_)
    · refine VE_aload_n 0 dX1_visitsHome_24 (k := ?_)
      refine VE_cVi [] dX1_visitsHome_25 ml_X1_47 ((h.2 c1).1 c2) (fun r3 σ4 h5 => ?_) (rok_D d)
      refine VE_istore_n (ls' := [(2, vI r3), (0, vR 14), (1, vI x1)]) dX1_visitsHome_28 ?_
      refine VE_iload_n 0 dX1_visitsHome_29 (k := ?_)
      refine VE_bipush (-9) dX1_visitsHome_30 (k := ?_)
      refine VE_icmp_ne 37 dX1_visitsHome_32 (fun c6 => ?_) (fun c6 => ?_)
      · refine VE_aload_n 1 dX1_visitsHome_37 (k := ?_)
        refine VE_iload_n 0 dX1_visitsHome_38 (k := ?_)
        refine VE_cVv [vI r3] dX1_visitsHome_39 ml_X1_43 (h5.1 c6) (fun σ8 h9 => ?_) (rok_D d)
        refine VE_iinc 2 (x1 + 1) (ls' := [(1, vI (x1 + 1)), (2, vI r3), (0, vR 14)]) dX1_visitsHome_42 ?_
        refine VE_goto 2 dX1_visitsHome_45 ?_
        exact VE_sub [2, 0] rfl h9
      · refine VE_iload_n 2 dX1_visitsHome_35 (k := ?_)
        exact VM_iret dX1_visitsHome_36 (h5.2 c6)
    · refine VE_aload_n 0 dX1_visitsHome_17 (k := ?_)
      refine VE_getI dX1_visitsHome_18 fl_X1_21 ?_
      refine VE_goto 28 dX1_visitsHome_21 ?_
      refine VE_istore_n (ls' := [(2, vI (σ 14 4)), (0, vR 14), (1, vI x1)]) dX1_visitsHome_28 ?_
      refine VE_iload_n 0 dX1_visitsHome_29 (k := ?_)
      refine VE_bipush (-9) dX1_visitsHome_30 (k := ?_)
      refine VE_icmp_ne 37 dX1_visitsHome_32 (fun c10 => ?_) (fun c10 => ?_)
      · refine VE_aload_n 1 dX1_visitsHome_37 (k := ?_)
        refine VE_iload_n 0 dX1_visitsHome_38 (k := ?_)
        refine VE_cVv [vI (σ 14 4)] dX1_visitsHome_39 ml_X1_43 (((h.2 c1).2 c2).1 c10) (fun σ12 h13 => ?_) (rok_D d)
        refine VE_iinc 2 (x1 + 1) (ls' := [(1, vI (x1 + 1)), (2, vI (σ 14 4)), (0, vR 14)]) dX1_visitsHome_42 ?_
        refine VE_goto 2 dX1_visitsHome_45 ?_
        exact VE_sub [2, 0] rfl h13
      · refine VE_iload_n 2 dX1_visitsHome_35 (k := ?_)
        exact VM_iret dX1_visitsHome_36 (((h.2 c1).2 c2).2 c10)
theorem dX1_firstAstray_0 : decode cX1_firstAstray 0 = .ok (.iconst 0, 1) := by decide +kernel
theorem dX1_firstAstray_1 : decode cX1_firstAstray 1 = .ok (.istore_n 1, 1) := by decide +kernel
theorem dX1_firstAstray_2 : decode cX1_firstAstray 2 = .ok (.iload_n 1, 1) := by decide +kernel
theorem dX1_firstAstray_3 : decode cX1_firstAstray 3 = .ok (.aload_n 0, 1) := by decide +kernel
theorem dX1_firstAstray_4 : decode cX1_firstAstray 4 = .ok (.getfield 30, 3) := by decide +kernel
theorem dX1_firstAstray_7 : decode cX1_firstAstray 7 = .ok (.if_icmp .ge 21, 3) := by decide +kernel
theorem dX1_firstAstray_10 : decode cX1_firstAstray 10 = .ok (.aload_n 0, 1) := by decide +kernel
theorem dX1_firstAstray_11 : decode cX1_firstAstray 11 = .ok (.getfield 9, 3) := by decide +kernel
theorem dX1_firstAstray_14 : decode cX1_firstAstray 14 = .ok (.iload_n 1, 1) := by decide +kernel
theorem dX1_firstAstray_15 : decode cX1_firstAstray 15 = .ok (.iaload, 1) := by decide +kernel
theorem dX1_firstAstray_16 : decode cX1_firstAstray 16 = .ok (.iload_n 1, 1) := by decide +kernel
theorem dX1_firstAstray_17 : decode cX1_firstAstray 17 = .ok (.if_icmp .eq 5, 3) := by decide +kernel
theorem dX1_firstAstray_20 : decode cX1_firstAstray 20 = .ok (.iload_n 1, 1) := by decide +kernel
theorem dX1_firstAstray_21 : decode cX1_firstAstray 21 = .ok (.ireturn, 1) := by decide +kernel
theorem dX1_firstAstray_22 : decode cX1_firstAstray 22 = .ok (.iinc 1 1, 3) := by decide +kernel
theorem dX1_firstAstray_25 : decode cX1_firstAstray 25 = .ok (.goto (-23), 3) := by decide +kernel
theorem dX1_firstAstray_28 : decode cX1_firstAstray 28 = .ok (.bipush (-9), 2) := by decide +kernel
theorem dX1_firstAstray_30 : decode cX1_firstAstray 30 = .ok (.ireturn, 1) := by decide +kernel
set_option maxRecDepth 20000 in
theorem S_X1_firstAstray_0 {g : GG} {d : Nat} {F : Int32 → St → Prop}  (σ : St) (h : VM g d M_X1_firstAstray (qI F) 2 [(0, vR 14), (1, vI 0)] [] σ) : VM g d M_X1_firstAstray (qI F) 0 [(0, vR 14)] [] σ := by
  refine VE_iconst 0 dX1_firstAstray_0 (k := ?_)
  refine VE_istore_n (ls' := [(1, vI 0), (0, vR 14)]) dX1_firstAstray_1 ?_
  exact VE_sub [1, 0] rfl h
set_option maxRecDepth 20000 in
theorem S_X1_firstAstray_2 {g : GG} {d : Nat} {F : Int32 → St → Prop} (x1 : Int32) (σ : St) (h : (((σ 14 3) ≤ x1 → F (-9) σ) ∧ (¬ (σ 14 3) ≤ x1 → (vp_in x1 5 ∧ (((σ 15 x1.toNatClampNeg) = x1 → VM g d M_X1_firstAstray (qI F) 2 [(0, vR 14), (1, vI (x1 + 1))] [] σ) ∧ (¬ (σ 15 x1.toNatClampNeg) = x1 → F x1 σ)))))) : VM g d M_X1_firstAstray (qI F) 2 [(0, vR 14), (1, vI x1)] [] σ := by
  refine VE_iload_n 1 dX1_firstAstray_2 (k := ?_)
  refine VE_aload_n 0 dX1_firstAstray_3 (k := ?_)
  refine VE_getI dX1_firstAstray_4 fl_X1_30 ?_
  refine VE_icmp_ge 28 dX1_firstAstray_7 (fun c1 => ?_) (fun c1 => ?_)
  · refine VE_bipush (-9) dX1_firstAstray_28 (k := ?_)
    exact VM_iret dX1_firstAstray_30 (h.1 c1)
  · refine VE_aload_n 0 dX1_firstAstray_10 (k := ?_)
    refine VE_getR 15 dX1_firstAstray_11 fl_X1_9 ?_
    refine VE_iload_n 1 dX1_firstAstray_14 (k := ?_)
    refine VE_iald dX1_firstAstray_15 (h.2 c1).1 ?_
    refine VE_iload_n 1 dX1_firstAstray_16 (k := ?_)
    refine VE_icmp_eq 22 dX1_firstAstray_17 (fun c2 => ?_) (fun c2 => ?_)
    · refine VE_iinc 1 (x1 + 1) (ls' := [(1, vI (x1 + 1)), (0, vR 14)]) dX1_firstAstray_22 ?_
      refine VE_goto 2 dX1_firstAstray_25 ?_
      exact VE_sub [1, 0] rfl ((h.2 c1).2.1 c2)
    · refine VE_iload_n 1 dX1_firstAstray_20 (k := ?_)
      exact VM_iret dX1_firstAstray_21 ((h.2 c1).2.2 c2)
theorem dX1_mostTaken_0 : decode cX1_mostTaken 0 = .ok (.bipush (-9), 2) := by decide +kernel
theorem dX1_mostTaken_2 : decode cX1_mostTaken 2 = .ok (.istore_n 1, 1) := by decide +kernel
theorem dX1_mostTaken_3 : decode cX1_mostTaken 3 = .ok (.iconst 0, 1) := by decide +kernel
theorem dX1_mostTaken_4 : decode cX1_mostTaken 4 = .ok (.istore_n 2, 1) := by decide +kernel
theorem dX1_mostTaken_5 : decode cX1_mostTaken 5 = .ok (.iload_n 2, 1) := by decide +kernel
theorem dX1_mostTaken_6 : decode cX1_mostTaken 6 = .ok (.aload_n 0, 1) := by decide +kernel
theorem dX1_mostTaken_7 : decode cX1_mostTaken 7 = .ok (.getfield 30, 3) := by decide +kernel
theorem dX1_mostTaken_10 : decode cX1_mostTaken 10 = .ok (.if_icmp .ge 36, 3) := by decide +kernel
theorem dX1_mostTaken_13 : decode cX1_mostTaken 13 = .ok (.aload_n 0, 1) := by decide +kernel
theorem dX1_mostTaken_14 : decode cX1_mostTaken 14 = .ok (.getfield 15, 3) := by decide +kernel
theorem dX1_mostTaken_17 : decode cX1_mostTaken 17 = .ok (.iload_n 2, 1) := by decide +kernel
theorem dX1_mostTaken_18 : decode cX1_mostTaken 18 = .ok (.iaload, 1) := by decide +kernel
theorem dX1_mostTaken_19 : decode cX1_mostTaken 19 = .ok (.iload_n 1, 1) := by decide +kernel
theorem dX1_mostTaken_20 : decode cX1_mostTaken 20 = .ok (.bipush (-9), 2) := by decide +kernel
theorem dX1_mostTaken_22 : decode cX1_mostTaken 22 = .ok (.if_icmp .ne 7, 3) := by decide +kernel
theorem dX1_mostTaken_25 : decode cX1_mostTaken 25 = .ok (.iconst 0, 1) := by decide +kernel
theorem dX1_mostTaken_26 : decode cX1_mostTaken 26 = .ok (.goto 9, 3) := by decide +kernel
theorem dX1_mostTaken_29 : decode cX1_mostTaken 29 = .ok (.aload_n 0, 1) := by decide +kernel
theorem dX1_mostTaken_30 : decode cX1_mostTaken 30 = .ok (.getfield 15, 3) := by decide +kernel
theorem dX1_mostTaken_33 : decode cX1_mostTaken 33 = .ok (.iload_n 1, 1) := by decide +kernel
theorem dX1_mostTaken_34 : decode cX1_mostTaken 34 = .ok (.iaload, 1) := by decide +kernel
theorem dX1_mostTaken_35 : decode cX1_mostTaken 35 = .ok (.if_icmp .le 5, 3) := by decide +kernel
theorem dX1_mostTaken_38 : decode cX1_mostTaken 38 = .ok (.iload_n 2, 1) := by decide +kernel
theorem dX1_mostTaken_39 : decode cX1_mostTaken 39 = .ok (.istore_n 1, 1) := by decide +kernel
theorem dX1_mostTaken_40 : decode cX1_mostTaken 40 = .ok (.iinc 2 1, 3) := by decide +kernel
theorem dX1_mostTaken_43 : decode cX1_mostTaken 43 = .ok (.goto (-38), 3) := by decide +kernel
theorem dX1_mostTaken_46 : decode cX1_mostTaken 46 = .ok (.iload_n 1, 1) := by decide +kernel
theorem dX1_mostTaken_47 : decode cX1_mostTaken 47 = .ok (.ireturn, 1) := by decide +kernel
set_option maxRecDepth 20000 in
theorem S_X1_mostTaken_0 {g : GG} {d : Nat} {F : Int32 → St → Prop}  (σ : St) (h : VM g d M_X1_mostTaken (qI F) 5 [(0, vR 14), (1, vI (-9)), (2, vI 0)] [] σ) : VM g d M_X1_mostTaken (qI F) 0 [(0, vR 14)] [] σ := by
  refine VE_bipush (-9) dX1_mostTaken_0 (k := ?_)
  refine VE_istore_n (ls' := [(1, vI (-9)), (0, vR 14)]) dX1_mostTaken_2 ?_
  refine VE_iconst 0 dX1_mostTaken_3 (k := ?_)
  refine VE_istore_n (ls' := [(2, vI 0), (1, vI (-9)), (0, vR 14)]) dX1_mostTaken_4 ?_
  exact VE_sub [2, 1, 0] rfl h
set_option maxRecDepth 20000 in
theorem S_X1_mostTaken_5 {g : GG} {d : Nat} {F : Int32 → St → Prop} (x1 : Int32) (x2 : Int32) (σ : St) (h : (((σ 14 3) ≤ x2 → F x1 σ) ∧ (¬ (σ 14 3) ≤ x2 → (vp_in x2 5 ∧ ((¬ x1 = (-9) → (vp_in x1 5 ∧ (((σ 16 x2.toNatClampNeg) ≤ (σ 16 x1.toNatClampNeg) → VM g d M_X1_mostTaken (qI F) 5 [(0, vR 14), (1, vI x1), (2, vI (x2 + 1))] [] σ) ∧ (¬ (σ 16 x2.toNatClampNeg) ≤ (σ 16 x1.toNatClampNeg) → VM g d M_X1_mostTaken (qI F) 5 [(0, vR 14), (1, vI x2), (2, vI (x2 + 1))] [] σ)))) ∧ (x1 = (-9) → (((σ 16 x2.toNatClampNeg) ≤ 0 → VM g d M_X1_mostTaken (qI F) 5 [(0, vR 14), (1, vI x1), (2, vI (x2 + 1))] [] σ) ∧ (¬ (σ 16 x2.toNatClampNeg) ≤ 0 → VM g d M_X1_mostTaken (qI F) 5 [(0, vR 14), (1, vI x2), (2, vI (x2 + 1))] [] σ)))))))) : VM g d M_X1_mostTaken (qI F) 5 [(0, vR 14), (1, vI x1), (2, vI x2)] [] σ := by
  refine VE_iload_n 2 dX1_mostTaken_5 (k := ?_)
  refine VE_aload_n 0 dX1_mostTaken_6 (k := ?_)
  refine VE_getI dX1_mostTaken_7 fl_X1_30 ?_
  refine VE_icmp_ge 46 dX1_mostTaken_10 (fun c1 => ?_) (fun c1 => ?_)
  · refine VE_iload_n 1 dX1_mostTaken_46 (k := ?_)
    exact VM_iret dX1_mostTaken_47 (h.1 c1)
  · refine VE_aload_n 0 dX1_mostTaken_13 (k := ?_)
    refine VE_getR 16 dX1_mostTaken_14 fl_X1_15 ?_
    refine VE_iload_n 2 dX1_mostTaken_17 (k := ?_)
    refine VE_iald dX1_mostTaken_18 (h.2 c1).1 ?_
    refine VE_iload_n 1 dX1_mostTaken_19 (k := ?_)
    refine VE_bipush (-9) dX1_mostTaken_20 (k := ?_)
    refine VE_icmp_ne 29 dX1_mostTaken_22 (fun c2 => ?_) (fun c2 => ?_)
    · refine VE_aload_n 0 dX1_mostTaken_29 (k := ?_)
      refine VE_getR 16 dX1_mostTaken_30 fl_X1_15 ?_
      refine VE_iload_n 1 dX1_mostTaken_33 (k := ?_)
      refine VE_iald dX1_mostTaken_34 ((h.2 c1).2.1 c2).1 ?_
      refine VE_icmp_le 40 dX1_mostTaken_35 (fun c3 => ?_) (fun c3 => ?_)
      · refine VE_iinc 2 (x2 + 1) (ls' := [(2, vI (x2 + 1)), (0, vR 14), (1, vI x1)]) dX1_mostTaken_40 ?_
        refine VE_goto 5 dX1_mostTaken_43 ?_
        exact VE_sub [1, 2, 0] rfl (((h.2 c1).2.1 c2).2.1 c3)
      · refine VE_iload_n 2 dX1_mostTaken_38 (k := ?_)
        refine VE_istore_n (ls' := [(1, vI x2), (0, vR 14), (2, vI x2)]) dX1_mostTaken_39 ?_
        refine VE_iinc 2 (x2 + 1) (ls' := [(2, vI (x2 + 1)), (1, vI x2), (0, vR 14)]) dX1_mostTaken_40 ?_
        refine VE_goto 5 dX1_mostTaken_43 ?_
        exact VE_sub [2, 1, 0] rfl (((h.2 c1).2.1 c2).2.2 c3)
    · refine VE_iconst 0 dX1_mostTaken_25 (k := ?_)
      refine VE_goto 35 dX1_mostTaken_26 ?_
      refine VE_icmp_le 40 dX1_mostTaken_35 (fun c4 => ?_) (fun c4 => ?_)
      · refine VE_iinc 2 (x2 + 1) (ls' := [(2, vI (x2 + 1)), (0, vR 14), (1, vI x1)]) dX1_mostTaken_40 ?_
        refine VE_goto 5 dX1_mostTaken_43 ?_
        exact VE_sub [1, 2, 0] rfl (((h.2 c1).2.2 c2).1 c4)
      · refine VE_iload_n 2 dX1_mostTaken_38 (k := ?_)
        refine VE_istore_n (ls' := [(1, vI x2), (0, vR 14), (2, vI x2)]) dX1_mostTaken_39 ?_
        refine VE_iinc 2 (x2 + 1) (ls' := [(2, vI (x2 + 1)), (1, vI x2), (0, vR 14)]) dX1_mostTaken_40 ?_
        refine VE_goto 5 dX1_mostTaken_43 ?_
        exact VE_sub [2, 1, 0] rfl (((h.2 c1).2.2 c2).2 c4)
theorem dX1_fooling_0 : decode cX1_fooling 0 = .ok (.iconst 0, 1) := by decide +kernel
theorem dX1_fooling_1 : decode cX1_fooling 1 = .ok (.istore_n 3, 1) := by decide +kernel
theorem dX1_fooling_2 : decode cX1_fooling 2 = .ok (.iconst 0, 1) := by decide +kernel
theorem dX1_fooling_3 : decode cX1_fooling 3 = .ok (.istore 4, 2) := by decide +kernel
theorem dX1_fooling_5 : decode cX1_fooling 5 = .ok (.iload 4, 2) := by decide +kernel
theorem dX1_fooling_7 : decode cX1_fooling 7 = .ok (.aload_n 0, 1) := by decide +kernel
theorem dX1_fooling_8 : decode cX1_fooling 8 = .ok (.getfield 30, 3) := by decide +kernel
theorem dX1_fooling_11 : decode cX1_fooling 11 = .ok (.if_icmp .ge 48, 3) := by decide +kernel
theorem dX1_fooling_14 : decode cX1_fooling 14 = .ok (.iload 4, 2) := by decide +kernel
theorem dX1_fooling_16 : decode cX1_fooling 16 = .ok (.iload_n 1, 1) := by decide +kernel
theorem dX1_fooling_17 : decode cX1_fooling 17 = .ok (.if_icmp .eq 36, 3) := by decide +kernel
theorem dX1_fooling_20 : decode cX1_fooling 20 = .ok (.iload 4, 2) := by decide +kernel
theorem dX1_fooling_22 : decode cX1_fooling 22 = .ok (.iload_n 2, 1) := by decide +kernel
theorem dX1_fooling_23 : decode cX1_fooling 23 = .ok (.if_icmp .eq 30, 3) := by decide +kernel
theorem dX1_fooling_26 : decode cX1_fooling 26 = .ok (.aload_n 0, 1) := by decide +kernel
theorem dX1_fooling_27 : decode cX1_fooling 27 = .ok (.getfield 9, 3) := by decide +kernel
theorem dX1_fooling_30 : decode cX1_fooling 30 = .ok (.iload 4, 2) := by decide +kernel
theorem dX1_fooling_32 : decode cX1_fooling 32 = .ok (.iaload, 1) := by decide +kernel
theorem dX1_fooling_33 : decode cX1_fooling 33 = .ok (.bipush (-9), 2) := by decide +kernel
theorem dX1_fooling_35 : decode cX1_fooling 35 = .ok (.if_icmp .eq 18, 3) := by decide +kernel
theorem dX1_fooling_38 : decode cX1_fooling 38 = .ok (.aload_n 0, 1) := by decide +kernel
theorem dX1_fooling_39 : decode cX1_fooling 39 = .ok (.getfield 9, 3) := by decide +kernel
theorem dX1_fooling_42 : decode cX1_fooling 42 = .ok (.iload 4, 2) := by decide +kernel
theorem dX1_fooling_44 : decode cX1_fooling 44 = .ok (.iaload, 1) := by decide +kernel
theorem dX1_fooling_45 : decode cX1_fooling 45 = .ok (.iload 4, 2) := by decide +kernel
theorem dX1_fooling_47 : decode cX1_fooling 47 = .ok (.if_icmp .eq 6, 3) := by decide +kernel
theorem dX1_fooling_50 : decode cX1_fooling 50 = .ok (.iinc 3 1, 3) := by decide +kernel
theorem dX1_fooling_53 : decode cX1_fooling 53 = .ok (.iinc 4 1, 3) := by decide +kernel
theorem dX1_fooling_56 : decode cX1_fooling 56 = .ok (.goto (-51), 3) := by decide +kernel
theorem dX1_fooling_59 : decode cX1_fooling 59 = .ok (.iload_n 3, 1) := by decide +kernel
theorem dX1_fooling_60 : decode cX1_fooling 60 = .ok (.ireturn, 1) := by decide +kernel
set_option maxRecDepth 20000 in
theorem S_X1_fooling_0 {g : GG} {d : Nat} {F : Int32 → St → Prop} (a1 : Int32) (a2 : Int32) (σ : St) (h : VM g d M_X1_fooling (qI F) 5 [(0, vR 14), (1, vI a1), (2, vI a2), (3, vI 0), (4, vI 0)] [] σ) : VM g d M_X1_fooling (qI F) 0 [(0, vR 14), (1, vI a1), (2, vI a2)] [] σ := by
  refine VE_iconst 0 dX1_fooling_0 (k := ?_)
  refine VE_istore_n (ls' := [(3, vI 0), (0, vR 14), (1, vI a1), (2, vI a2)]) dX1_fooling_1 ?_
  refine VE_iconst 0 dX1_fooling_2 (k := ?_)
  refine VE_istore (ls' := [(4, vI 0), (3, vI 0), (0, vR 14), (1, vI a1), (2, vI a2)]) dX1_fooling_3 ?_
  exact VE_sub [2, 3, 4, 1, 0] rfl h
set_option maxRecDepth 20000 in
theorem S_X1_fooling_5 {g : GG} {d : Nat} {F : Int32 → St → Prop} (x1 : Int32) (x2 : Int32) (x3 : Int32) (x4 : Int32) (σ : St) (h : (((σ 14 3) ≤ x4 → F x3 σ) ∧ (¬ (σ 14 3) ≤ x4 → ((x4 = x1 → VM g d M_X1_fooling (qI F) 5 [(0, vR 14), (1, vI x1), (2, vI x2), (3, vI x3), (4, vI (x4 + 1))] [] σ) ∧ (¬ x4 = x1 → ((x4 = x2 → VM g d M_X1_fooling (qI F) 5 [(0, vR 14), (1, vI x1), (2, vI x2), (3, vI x3), (4, vI (x4 + 1))] [] σ) ∧ (¬ x4 = x2 → (vp_in x4 5 ∧ (((σ 15 x4.toNatClampNeg) = (-9) → VM g d M_X1_fooling (qI F) 5 [(0, vR 14), (1, vI x1), (2, vI x2), (3, vI x3), (4, vI (x4 + 1))] [] σ) ∧ (¬ (σ 15 x4.toNatClampNeg) = (-9) → (((σ 15 x4.toNatClampNeg) = x4 → VM g d M_X1_fooling (qI F) 5 [(0, vR 14), (1, vI x1), (2, vI x2), (3, vI x3), (4, vI (x4 + 1))] [] σ) ∧ (¬ (σ 15 x4.toNatClampNeg) = x4 → VM g d M_X1_fooling (qI F) 5 [(0, vR 14), (1, vI x1), (2, vI x2), (3, vI (x3 + 1)), (4, vI (x4 + 1))] [] σ)))))))))))) : VM g d M_X1_fooling (qI F) 5 [(0, vR 14), (1, vI x1), (2, vI x2), (3, vI x3), (4, vI x4)] [] σ := by
  refine VE_iload 4 dX1_fooling_5 (k := ?_)
  refine VE_aload_n 0 dX1_fooling_7 (k := ?_)
  refine VE_getI dX1_fooling_8 fl_X1_30 ?_
  refine VE_icmp_ge 59 dX1_fooling_11 (fun c1 => ?_) (fun c1 => ?_)
  · refine VE_iload_n 3 dX1_fooling_59 (k := ?_)
    exact VM_iret dX1_fooling_60 (h.1 c1)
  · refine VE_iload 4 dX1_fooling_14 (k := ?_)
    refine VE_iload_n 1 dX1_fooling_16 (k := ?_)
    refine VE_icmp_eq 53 dX1_fooling_17 (fun c2 => ?_) (fun c2 => ?_)
    · refine VE_iinc 4 (x4 + 1) (ls' := [(4, vI (x4 + 1)), (0, vR 14), (1, vI x1), (2, vI x2), (3, vI x3)]) dX1_fooling_53 ?_
      refine VE_goto 5 dX1_fooling_56 ?_
      exact VE_sub [1, 2, 3, 4, 0] rfl ((h.2 c1).1 c2)
    · refine VE_iload 4 dX1_fooling_20 (k := ?_)
      refine VE_iload_n 2 dX1_fooling_22 (k := ?_)
      refine VE_icmp_eq 53 dX1_fooling_23 (fun c3 => ?_) (fun c3 => ?_)
      · refine VE_iinc 4 (x4 + 1) (ls' := [(4, vI (x4 + 1)), (0, vR 14), (1, vI x1), (2, vI x2), (3, vI x3)]) dX1_fooling_53 ?_
        refine VE_goto 5 dX1_fooling_56 ?_
        exact VE_sub [1, 2, 3, 4, 0] rfl (((h.2 c1).2 c2).1 c3)
      · refine VE_aload_n 0 dX1_fooling_26 (k := ?_)
        refine VE_getR 15 dX1_fooling_27 fl_X1_9 ?_
        refine VE_iload 4 dX1_fooling_30 (k := ?_)
        refine VE_iald dX1_fooling_32 (((h.2 c1).2 c2).2 c3).1 ?_
        refine VE_bipush (-9) dX1_fooling_33 (k := ?_)
        refine VE_icmp_eq 53 dX1_fooling_35 (fun c4 => ?_) (fun c4 => ?_)
        · refine VE_iinc 4 (x4 + 1) (ls' := [(4, vI (x4 + 1)), (0, vR 14), (1, vI x1), (2, vI x2), (3, vI x3)]) dX1_fooling_53 ?_
          refine VE_goto 5 dX1_fooling_56 ?_
          exact VE_sub [1, 2, 3, 4, 0] rfl ((((h.2 c1).2 c2).2 c3).2.1 c4)
        · refine VE_aload_n 0 dX1_fooling_38 (k := ?_)
          refine VE_getR 15 dX1_fooling_39 fl_X1_9 ?_
          refine VE_iload 4 dX1_fooling_42 (k := ?_)
          refine VE_iald dX1_fooling_44 (((h.2 c1).2 c2).2 c3).1 ?_
          refine VE_iload 4 dX1_fooling_45 (k := ?_)
          refine VE_icmp_eq 53 dX1_fooling_47 (fun c5 => ?_) (fun c5 => ?_)
          · refine VE_iinc 4 (x4 + 1) (ls' := [(4, vI (x4 + 1)), (0, vR 14), (1, vI x1), (2, vI x2), (3, vI x3)]) dX1_fooling_53 ?_
            refine VE_goto 5 dX1_fooling_56 ?_
            exact VE_sub [1, 2, 3, 4, 0] rfl (((((h.2 c1).2 c2).2 c3).2.2 c4).1 c5)
          · refine VE_iinc 3 (x3 + 1) (ls' := [(3, vI (x3 + 1)), (0, vR 14), (1, vI x1), (2, vI x2), (4, vI x4)]) dX1_fooling_50 ?_
            refine VE_iinc 4 (x4 + 1) (ls' := [(4, vI (x4 + 1)), (3, vI (x3 + 1)), (0, vR 14), (1, vI x1), (2, vI x2)]) dX1_fooling_53 ?_
            refine VE_goto 5 dX1_fooling_56 ?_
            exact VE_sub [2, 3, 4, 1, 0] rfl (((((h.2 c1).2 c2).2 c3).2.2 c4).2 c5)
theorem dX2_add_0 : decode cX2_add 0 = .ok (.aload_n 0, 1) := by decide +kernel
theorem dX2_add_1 : decode cX2_add 1 = .ok (.getfield 9, 3) := by decide +kernel
theorem dX2_add_4 : decode cX2_add 4 = .ok (.aload_n 0, 1) := by decide +kernel
theorem dX2_add_5 : decode cX2_add 5 = .ok (.getfield 21, 3) := by decide +kernel
theorem dX2_add_8 : decode cX2_add 8 = .ok (.iload_n 1, 1) := by decide +kernel
theorem dX2_add_9 : decode cX2_add 9 = .ok (.iastore, 1) := by decide +kernel
theorem dX2_add_10 : decode cX2_add 10 = .ok (.aload_n 0, 1) := by decide +kernel
theorem dX2_add_11 : decode cX2_add 11 = .ok (.getfield 15, 3) := by decide +kernel
theorem dX2_add_14 : decode cX2_add 14 = .ok (.aload_n 0, 1) := by decide +kernel
theorem dX2_add_15 : decode cX2_add 15 = .ok (.getfield 21, 3) := by decide +kernel
theorem dX2_add_18 : decode cX2_add 18 = .ok (.iload_n 2, 1) := by decide +kernel
theorem dX2_add_19 : decode cX2_add 19 = .ok (.iastore, 1) := by decide +kernel
theorem dX2_add_20 : decode cX2_add 20 = .ok (.aload_n 0, 1) := by decide +kernel
theorem dX2_add_21 : decode cX2_add 21 = .ok (.getfield 18, 3) := by decide +kernel
theorem dX2_add_24 : decode cX2_add 24 = .ok (.aload_n 0, 1) := by decide +kernel
theorem dX2_add_25 : decode cX2_add 25 = .ok (.getfield 21, 3) := by decide +kernel
theorem dX2_add_28 : decode cX2_add 28 = .ok (.iload_n 3, 1) := by decide +kernel
theorem dX2_add_29 : decode cX2_add 29 = .ok (.iastore, 1) := by decide +kernel
theorem dX2_add_30 : decode cX2_add 30 = .ok (.aload_n 0, 1) := by decide +kernel
theorem dX2_add_31 : decode cX2_add 31 = .ok (.dup, 1) := by decide +kernel
theorem dX2_add_32 : decode cX2_add 32 = .ok (.getfield 21, 3) := by decide +kernel
theorem dX2_add_35 : decode cX2_add 35 = .ok (.dup_x1, 1) := by decide +kernel
theorem dX2_add_36 : decode cX2_add 36 = .ok (.iconst 1, 1) := by decide +kernel
theorem dX2_add_37 : decode cX2_add 37 = .ok (.iadd, 1) := by decide +kernel
theorem dX2_add_38 : decode cX2_add 38 = .ok (.putfield 21, 3) := by decide +kernel
theorem dX2_add_41 : decode cX2_add 41 = .ok (.ireturn, 1) := by decide +kernel
set_option maxRecDepth 20000 in
theorem S_X2_add_0 {g : GG} {d : Nat} {F : Int32 → St → Prop} (a1 : Int32) (a2 : Int32) (a3 : Int32) (σ : St) (h : (vp_in (σ 18 3) 8 ∧ F (σ 18 3) (sU (sU (sU (sU σ 19 ((σ 18 3).toNatClampNeg) a1) 20 ((σ 18 3).toNatClampNeg) a2) 21 ((σ 18 3).toNatClampNeg) a3) 18 3 ((σ 18 3) + 1)))) : VM g d M_X2_add (qI F) 0 [(0, vR 18), (1, vI a1), (2, vI a2), (3, vI a3)] [] σ := by
  refine VE_aload_n 0 dX2_add_0 (k := ?_)
  refine VE_getR 19 dX2_add_1 fl_X2_9 ?_
  refine VE_aload_n 0 dX2_add_4 (k := ?_)
  refine VE_getI dX2_add_5 fl_X2_21 ?_
  refine VE_iload_n 1 dX2_add_8 (k := ?_)
  refine VE_iast dX2_add_9 h.1 ?_
  refine VE_aload_n 0 dX2_add_10 (k := ?_)
  refine VE_getR 20 dX2_add_11 fl_X2_15 ?_
  refine VE_aload_n 0 dX2_add_14 (k := ?_)
  refine VE_getI dX2_add_15 fl_X2_21 ?_
  refine VE_iload_n 2 dX2_add_18 (k := ?_)
  refine VE_iast dX2_add_19 h.1 ?_
  refine VE_aload_n 0 dX2_add_20 (k := ?_)
  refine VE_getR 21 dX2_add_21 fl_X2_18 ?_
  refine VE_aload_n 0 dX2_add_24 (k := ?_)
  refine VE_getI dX2_add_25 fl_X2_21 ?_
  refine VE_iload_n 3 dX2_add_28 (k := ?_)
  refine VE_iast dX2_add_29 h.1 ?_
  refine VE_aload_n 0 dX2_add_30 (k := ?_)
  refine VE_dup dX2_add_31 (k := ?_)
  refine VE_getI dX2_add_32 fl_X2_21 ?_
  refine VE_dup_x1 dX2_add_35 (k := ?_)
  refine VE_iconst 1 dX2_add_36 (k := ?_)
  refine VE_iadd dX2_add_37 ?_
  refine VE_put dX2_add_38 fl_X2_21 ?_
  exact VM_iret dX2_add_41 h.2
theorem dX2_reachBeyond_0 : decode cX2_reachBeyond 0 = .ok (.iconst 0, 1) := by decide +kernel
theorem dX2_reachBeyond_1 : decode cX2_reachBeyond 1 = .ok (.istore_n 2, 1) := by decide +kernel
theorem dX2_reachBeyond_2 : decode cX2_reachBeyond 2 = .ok (.iload_n 2, 1) := by decide +kernel
theorem dX2_reachBeyond_3 : decode cX2_reachBeyond 3 = .ok (.aload_n 0, 1) := by decide +kernel
theorem dX2_reachBeyond_4 : decode cX2_reachBeyond 4 = .ok (.getfield 21, 3) := by decide +kernel
theorem dX2_reachBeyond_7 : decode cX2_reachBeyond 7 = .ok (.if_icmp .ge 21, 3) := by decide +kernel
theorem dX2_reachBeyond_10 : decode cX2_reachBeyond 10 = .ok (.aload_n 0, 1) := by decide +kernel
theorem dX2_reachBeyond_11 : decode cX2_reachBeyond 11 = .ok (.getfield 9, 3) := by decide +kernel
theorem dX2_reachBeyond_14 : decode cX2_reachBeyond 14 = .ok (.iload_n 2, 1) := by decide +kernel
theorem dX2_reachBeyond_15 : decode cX2_reachBeyond 15 = .ok (.iaload, 1) := by decide +kernel
theorem dX2_reachBeyond_16 : decode cX2_reachBeyond 16 = .ok (.iload_n 1, 1) := by decide +kernel
theorem dX2_reachBeyond_17 : decode cX2_reachBeyond 17 = .ok (.if_icmp .le 5, 3) := by decide +kernel
theorem dX2_reachBeyond_20 : decode cX2_reachBeyond 20 = .ok (.iconst 1, 1) := by decide +kernel
theorem dX2_reachBeyond_21 : decode cX2_reachBeyond 21 = .ok (.ireturn, 1) := by decide +kernel
theorem dX2_reachBeyond_22 : decode cX2_reachBeyond 22 = .ok (.iinc 2 1, 3) := by decide +kernel
theorem dX2_reachBeyond_25 : decode cX2_reachBeyond 25 = .ok (.goto (-23), 3) := by decide +kernel
theorem dX2_reachBeyond_28 : decode cX2_reachBeyond 28 = .ok (.iconst 0, 1) := by decide +kernel
theorem dX2_reachBeyond_29 : decode cX2_reachBeyond 29 = .ok (.ireturn, 1) := by decide +kernel
set_option maxRecDepth 20000 in
theorem S_X2_reachBeyond_0 {g : GG} {d : Nat} {F : Int32 → St → Prop} (a1 : Int32) (σ : St) (h : VM g d M_X2_reachBeyond (qI F) 2 [(0, vR 18), (1, vI a1), (2, vI 0)] [] σ) : VM g d M_X2_reachBeyond (qI F) 0 [(0, vR 18), (1, vI a1)] [] σ := by
  refine VE_iconst 0 dX2_reachBeyond_0 (k := ?_)
  refine VE_istore_n (ls' := [(2, vI 0), (0, vR 18), (1, vI a1)]) dX2_reachBeyond_1 ?_
  exact VE_sub [1, 2, 0] rfl h
set_option maxRecDepth 20000 in
theorem S_X2_reachBeyond_2 {g : GG} {d : Nat} {F : Int32 → St → Prop} (x1 : Int32) (x2 : Int32) (σ : St) (h : (((σ 18 3) ≤ x2 → F 0 σ) ∧ (¬ (σ 18 3) ≤ x2 → (vp_in x2 8 ∧ (((σ 19 x2.toNatClampNeg) ≤ x1 → VM g d M_X2_reachBeyond (qI F) 2 [(0, vR 18), (1, vI x1), (2, vI (x2 + 1))] [] σ) ∧ (¬ (σ 19 x2.toNatClampNeg) ≤ x1 → F 1 σ)))))) : VM g d M_X2_reachBeyond (qI F) 2 [(0, vR 18), (1, vI x1), (2, vI x2)] [] σ := by
  refine VE_iload_n 2 dX2_reachBeyond_2 (k := ?_)
  refine VE_aload_n 0 dX2_reachBeyond_3 (k := ?_)
  refine VE_getI dX2_reachBeyond_4 fl_X2_21 ?_
  refine VE_icmp_ge 28 dX2_reachBeyond_7 (fun c1 => ?_) (fun c1 => ?_)
  · refine VE_iconst 0 dX2_reachBeyond_28 (k := ?_)
    exact VM_zret dX2_reachBeyond_29 (h.1 c1) (by decide)
  · refine VE_aload_n 0 dX2_reachBeyond_10 (k := ?_)
    refine VE_getR 19 dX2_reachBeyond_11 fl_X2_9 ?_
    refine VE_iload_n 2 dX2_reachBeyond_14 (k := ?_)
    refine VE_iald dX2_reachBeyond_15 (h.2 c1).1 ?_
    refine VE_iload_n 1 dX2_reachBeyond_16 (k := ?_)
    refine VE_icmp_le 22 dX2_reachBeyond_17 (fun c2 => ?_) (fun c2 => ?_)
    · refine VE_iinc 2 (x2 + 1) (ls' := [(2, vI (x2 + 1)), (0, vR 18), (1, vI x1)]) dX2_reachBeyond_22 ?_
      refine VE_goto 2 dX2_reachBeyond_25 ?_
      exact VE_sub [1, 2, 0] rfl ((h.2 c1).2.1 c2)
    · refine VE_iconst 1 dX2_reachBeyond_20 (k := ?_)
      exact VM_zret dX2_reachBeyond_21 ((h.2 c1).2.2 c2) (by decide)
theorem dX2_areSo_0 : decode cX2_areSo 0 = .ok (.iconst 0, 1) := by decide +kernel
theorem dX2_areSo_1 : decode cX2_areSo 1 = .ok (.istore_n 3, 1) := by decide +kernel
theorem dX2_areSo_2 : decode cX2_areSo 2 = .ok (.iload_n 3, 1) := by decide +kernel
theorem dX2_areSo_3 : decode cX2_areSo 3 = .ok (.aload_n 0, 1) := by decide +kernel
theorem dX2_areSo_4 : decode cX2_areSo 4 = .ok (.getfield 21, 3) := by decide +kernel
theorem dX2_areSo_7 : decode cX2_areSo 7 = .ok (.if_icmp .ge 41, 3) := by decide +kernel
theorem dX2_areSo_10 : decode cX2_areSo 10 = .ok (.aload_n 0, 1) := by decide +kernel
theorem dX2_areSo_11 : decode cX2_areSo 11 = .ok (.getfield 9, 3) := by decide +kernel
theorem dX2_areSo_14 : decode cX2_areSo 14 = .ok (.iload_n 3, 1) := by decide +kernel
theorem dX2_areSo_15 : decode cX2_areSo 15 = .ok (.iaload, 1) := by decide +kernel
theorem dX2_areSo_16 : decode cX2_areSo 16 = .ok (.iload_n 1, 1) := by decide +kernel
theorem dX2_areSo_17 : decode cX2_areSo 17 = .ok (.if_icmp .ne 25, 3) := by decide +kernel
theorem dX2_areSo_20 : decode cX2_areSo 20 = .ok (.aload_n 2, 1) := by decide +kernel
theorem dX2_areSo_21 : decode cX2_areSo 21 = .ok (.getfield 25, 3) := by decide +kernel
theorem dX2_areSo_24 : decode cX2_areSo 24 = .ok (.aload_n 0, 1) := by decide +kernel
theorem dX2_areSo_25 : decode cX2_areSo 25 = .ok (.getfield 15, 3) := by decide +kernel
theorem dX2_areSo_28 : decode cX2_areSo 28 = .ok (.iload_n 3, 1) := by decide +kernel
theorem dX2_areSo_29 : decode cX2_areSo 29 = .ok (.iaload, 1) := by decide +kernel
theorem dX2_areSo_30 : decode cX2_areSo 30 = .ok (.iaload, 1) := by decide +kernel
theorem dX2_areSo_31 : decode cX2_areSo 31 = .ok (.aload_n 0, 1) := by decide +kernel
theorem dX2_areSo_32 : decode cX2_areSo 32 = .ok (.getfield 18, 3) := by decide +kernel
theorem dX2_areSo_35 : decode cX2_areSo 35 = .ok (.iload_n 3, 1) := by decide +kernel
theorem dX2_areSo_36 : decode cX2_areSo 36 = .ok (.iaload, 1) := by decide +kernel
theorem dX2_areSo_37 : decode cX2_areSo 37 = .ok (.if_icmp .eq 5, 3) := by decide +kernel
theorem dX2_areSo_40 : decode cX2_areSo 40 = .ok (.iconst 0, 1) := by decide +kernel
theorem dX2_areSo_41 : decode cX2_areSo 41 = .ok (.ireturn, 1) := by decide +kernel
theorem dX2_areSo_42 : decode cX2_areSo 42 = .ok (.iinc 3 1, 3) := by decide +kernel
theorem dX2_areSo_45 : decode cX2_areSo 45 = .ok (.goto (-43), 3) := by decide +kernel
theorem dX2_areSo_48 : decode cX2_areSo 48 = .ok (.iconst 1, 1) := by decide +kernel
theorem dX2_areSo_49 : decode cX2_areSo 49 = .ok (.ireturn, 1) := by decide +kernel
set_option maxRecDepth 20000 in
theorem S_X2_areSo_0 {g : GG} {d : Nat} {F : Int32 → St → Prop} (a1 : Int32) (σ : St) (h : VM g d M_X2_areSo (qI F) 2 [(0, vR 18), (1, vI a1), (2, vR 14), (3, vI 0)] [] σ) : VM g d M_X2_areSo (qI F) 0 [(0, vR 18), (1, vI a1), (2, vR 14)] [] σ := by
  refine VE_iconst 0 dX2_areSo_0 (k := ?_)
  refine VE_istore_n (ls' := [(3, vI 0), (0, vR 18), (1, vI a1), (2, vR 14)]) dX2_areSo_1 ?_
  exact VE_sub [1, 2, 3, 0] rfl h
set_option maxRecDepth 20000 in
theorem S_X2_areSo_2 {g : GG} {d : Nat} {F : Int32 → St → Prop} (x1 : Int32) (x3 : Int32) (σ : St) (h : (((σ 18 3) ≤ x3 → F 1 σ) ∧ (¬ (σ 18 3) ≤ x3 → (vp_in x3 8 ∧ ((¬ (σ 19 x3.toNatClampNeg) = x1 → VM g d M_X2_areSo (qI F) 2 [(0, vR 18), (1, vI x1), (2, vR 14), (3, vI (x3 + 1))] [] σ) ∧ ((σ 19 x3.toNatClampNeg) = x1 → (vp_in (σ 20 x3.toNatClampNeg) 5 ∧ (((σ 15 ((σ 20 x3.toNatClampNeg).toNatClampNeg)) = (σ 21 x3.toNatClampNeg) → VM g d M_X2_areSo (qI F) 2 [(0, vR 18), (1, vI x1), (2, vR 14), (3, vI (x3 + 1))] [] σ) ∧ (¬ (σ 15 ((σ 20 x3.toNatClampNeg).toNatClampNeg)) = (σ 21 x3.toNatClampNeg) → F 0 σ))))))))) : VM g d M_X2_areSo (qI F) 2 [(0, vR 18), (1, vI x1), (2, vR 14), (3, vI x3)] [] σ := by
  refine VE_iload_n 3 dX2_areSo_2 (k := ?_)
  refine VE_aload_n 0 dX2_areSo_3 (k := ?_)
  refine VE_getI dX2_areSo_4 fl_X2_21 ?_
  refine VE_icmp_ge 48 dX2_areSo_7 (fun c1 => ?_) (fun c1 => ?_)
  · refine VE_iconst 1 dX2_areSo_48 (k := ?_)
    exact VM_zret dX2_areSo_49 (h.1 c1) (by decide)
  · refine VE_aload_n 0 dX2_areSo_10 (k := ?_)
    refine VE_getR 19 dX2_areSo_11 fl_X2_9 ?_
    refine VE_iload_n 3 dX2_areSo_14 (k := ?_)
    refine VE_iald dX2_areSo_15 (h.2 c1).1 ?_
    refine VE_iload_n 1 dX2_areSo_16 (k := ?_)
    refine VE_icmp_ne 42 dX2_areSo_17 (fun c2 => ?_) (fun c2 => ?_)
    · refine VE_iinc 3 (x3 + 1) (ls' := [(3, vI (x3 + 1)), (0, vR 18), (1, vI x1), (2, vR 14)]) dX2_areSo_42 ?_
      refine VE_goto 2 dX2_areSo_45 ?_
      exact VE_sub [1, 2, 3, 0] rfl ((h.2 c1).2.1 c2)
    · refine VE_aload_n 2 dX2_areSo_20 (k := ?_)
      refine VE_getR 15 dX2_areSo_21 fl_X2_25 ?_
      refine VE_aload_n 0 dX2_areSo_24 (k := ?_)
      refine VE_getR 20 dX2_areSo_25 fl_X2_15 ?_
      refine VE_iload_n 3 dX2_areSo_28 (k := ?_)
      refine VE_iald dX2_areSo_29 (h.2 c1).1 ?_
      refine VE_iald dX2_areSo_30 ((h.2 c1).2.2 c2).1 ?_
      refine VE_aload_n 0 dX2_areSo_31 (k := ?_)
      refine VE_getR 21 dX2_areSo_32 fl_X2_18 ?_
      refine VE_iload_n 3 dX2_areSo_35 (k := ?_)
      refine VE_iald dX2_areSo_36 (h.2 c1).1 ?_
      refine VE_icmp_eq 42 dX2_areSo_37 (fun c3 => ?_) (fun c3 => ?_)
      · refine VE_iinc 3 (x3 + 1) (ls' := [(3, vI (x3 + 1)), (0, vR 18), (1, vI x1), (2, vR 14)]) dX2_areSo_42 ?_
        refine VE_goto 2 dX2_areSo_45 ?_
        exact VE_sub [1, 2, 3, 0] rfl (((h.2 c1).2.2 c2).2.1 c3)
      · refine VE_iconst 0 dX2_areSo_40 (k := ?_)
        exact VM_zret dX2_areSo_41 (((h.2 c1).2.2 c2).2.2 c3) (by decide)
theorem dX3_isNothing_0 : decode cX3_isNothing 0 = .ok (.aload_n 0, 1) := by decide +kernel
theorem dX3_isNothing_1 : decode cX3_isNothing 1 = .ok (.getfield 15, 3) := by decide +kernel
theorem dX3_isNothing_4 : decode cX3_isNothing 4 = .ok (.ifCond .ge 7, 3) := by decide +kernel
theorem dX3_isNothing_7 : decode cX3_isNothing 7 = .ok (.iconst 1, 1) := by decide +kernel
theorem dX3_isNothing_8 : decode cX3_isNothing 8 = .ok (.goto 4, 3) := by decide +kernel
theorem dX3_isNothing_11 : decode cX3_isNothing 11 = .ok (.iconst 0, 1) := by decide +kernel
theorem dX3_isNothing_12 : decode cX3_isNothing 12 = .ok (.ireturn, 1) := by decide +kernel
set_option maxRecDepth 20000 in
theorem S_X3_isNothing_0 {g : GG} {d : Nat} {F : Int32 → St → Prop} {k : Nat} (hk : k < 4)  (σ : St) (h : ((0 ≤ (σ (2 + k) 2) → F 0 σ) ∧ (¬ 0 ≤ (σ (2 + k) 2) → F 1 σ))) : VM g d M_X3_isNothing (qI F) 0 [(0, vR (2 + k))] [] σ := by
  refine VE_aload_n 0 dX3_isNothing_0 (k := ?_)
  refine VE_getI dX3_isNothing_1 fl_X3_15 ?_ (sh_f2 hk)
  refine VE_if_ge 11 dX3_isNothing_4 (fun c1 => ?_) (fun c1 => ?_)
  · refine VE_iconst 0 dX3_isNothing_11 (k := ?_)
    exact VM_zret dX3_isNothing_12 (h.1 c1) (by decide)
  · refine VE_iconst 1 dX3_isNothing_7 (k := ?_)
    refine VE_goto 12 dX3_isNothing_8 ?_
    exact VM_zret dX3_isNothing_12 (h.2 c1) (by decide)
theorem dX3_renew_0 : decode cX3_renew 0 = .ok (.aload_n 0, 1) := by decide +kernel
theorem dX3_renew_1 : decode cX3_renew 1 = .ok (.iload_n 1, 1) := by decide +kernel
theorem dX3_renew_2 : decode cX3_renew 2 = .ok (.putfield 19, 3) := by decide +kernel
theorem dX3_renew_5 : decode cX3_renew 5 = .ok (.aload_n 0, 1) := by decide +kernel
theorem dX3_renew_6 : decode cX3_renew 6 = .ok (.iload_n 2, 1) := by decide +kernel
theorem dX3_renew_7 : decode cX3_renew 7 = .ok (.putfield 15, 3) := by decide +kernel
theorem dX3_renew_10 : decode cX3_renew 10 = .ok (.iconst 0, 1) := by decide +kernel
theorem dX3_renew_11 : decode cX3_renew 11 = .ok (.istore_n 3, 1) := by decide +kernel
theorem dX3_renew_12 : decode cX3_renew 12 = .ok (.iload_n 3, 1) := by decide +kernel
theorem dX3_renew_13 : decode cX3_renew 13 = .ok (.bipush 60, 2) := by decide +kernel
theorem dX3_renew_15 : decode cX3_renew 15 = .ok (.if_icmp .ge 16, 3) := by decide +kernel
theorem dX3_renew_18 : decode cX3_renew 18 = .ok (.aload_n 0, 1) := by decide +kernel
theorem dX3_renew_19 : decode cX3_renew 19 = .ok (.getfield 9, 3) := by decide +kernel
theorem dX3_renew_22 : decode cX3_renew 22 = .ok (.iload_n 3, 1) := by decide +kernel
theorem dX3_renew_23 : decode cX3_renew 23 = .ok (.iconst 0, 1) := by decide +kernel
theorem dX3_renew_24 : decode cX3_renew 24 = .ok (.iastore, 1) := by decide +kernel
theorem dX3_renew_25 : decode cX3_renew 25 = .ok (.iinc 3 1, 3) := by decide +kernel
theorem dX3_renew_28 : decode cX3_renew 28 = .ok (.goto (-16), 3) := by decide +kernel
theorem dX3_renew_31 : decode cX3_renew 31 = .ok (.return_, 1) := by decide +kernel
set_option maxRecDepth 20000 in
theorem S_X3_renew_0 {g : GG} {d : Nat} {F : St → Prop} {k : Nat} (hk : k < 4) (a1 : Int32) (a2 : Int32) (σ : St) (h : VM g d M_X3_renew (qV F) 12 [(0, vR (2 + k)), (1, vI a1), (2, vI a2), (3, vI 0)] [] (sU (sU σ (2 + k) 1 a1) (2 + k) 2 a2)) : VM g d M_X3_renew (qV F) 0 [(0, vR (2 + k)), (1, vI a1), (2, vI a2)] [] σ := by
  refine VE_aload_n 0 dX3_renew_0 (k := ?_)
  refine VE_iload_n 1 dX3_renew_1 (k := ?_)
  refine VE_put dX3_renew_2 fl_X3_19 ?_ (sh_f1 hk)
  refine VE_aload_n 0 dX3_renew_5 (k := ?_)
  refine VE_iload_n 2 dX3_renew_6 (k := ?_)
  refine VE_put dX3_renew_7 fl_X3_15 ?_ (sh_f2 hk)
  refine VE_iconst 0 dX3_renew_10 (k := ?_)
  refine VE_istore_n (ls' := [(3, vI 0), (0, vR (2 + k)), (1, vI a1), (2, vI a2)]) dX3_renew_11 ?_
  exact VE_sub [1, 2, 3, 0] rfl h
set_option maxRecDepth 20000 in
theorem S_X3_renew_12 {g : GG} {d : Nat} {F : St → Prop} {k : Nat} (hk : k < 4) (x1 : Int32) (x2 : Int32) (x3 : Int32) (σ : St) (h : ((60 ≤ x3 → F σ) ∧ (¬ 60 ≤ x3 → (vp_in x3 60 ∧ VM g d M_X3_renew (qV F) 12 [(0, vR (2 + k)), (1, vI x1), (2, vI x2), (3, vI (x3 + 1))] [] (sU σ (6 + k) x3.toNatClampNeg 0))))) : VM g d M_X3_renew (qV F) 12 [(0, vR (2 + k)), (1, vI x1), (2, vI x2), (3, vI x3)] [] σ := by
  refine VE_iload_n 3 dX3_renew_12 (k := ?_)
  refine VE_bipush 60 dX3_renew_13 (k := ?_)
  refine VE_icmp_ge 31 dX3_renew_15 (fun c1 => ?_) (fun c1 => ?_)
  · exact VM_vret dX3_renew_31 (h.1 c1)
  · refine VE_aload_n 0 dX3_renew_18 (k := ?_)
    refine VE_getR (6 + k) dX3_renew_19 fl_X3_9 ?_ (sh_f0 hk)
    refine VE_iload_n 3 dX3_renew_22 (k := ?_)
    refine VE_iconst 0 dX3_renew_23 (k := ?_)
    refine VE_iast dX3_renew_24 (sh_in hk (h.2 c1).1) ?_ (sh_A hk)
    refine VE_iinc 3 (x3 + 1) (ls' := [(3, vI (x3 + 1)), (0, vR (2 + k)), (1, vI x1), (2, vI x2)]) dX3_renew_25 ?_
    refine VE_goto 12 dX3_renew_28 ?_
    exact VE_sub [1, 2, 3, 0] rfl (h.2 c1).2
theorem dX3_hasCells_0 : decode cX3_hasCells 0 = .ok (.iload_n 1, 1) := by decide +kernel
theorem dX3_hasCells_1 : decode cX3_hasCells 1 = .ok (.ifCond .lt 29, 3) := by decide +kernel
theorem dX3_hasCells_4 : decode cX3_hasCells 4 = .ok (.iload_n 2, 1) := by decide +kernel
theorem dX3_hasCells_5 : decode cX3_hasCells 5 = .ok (.ifCond .lt 25, 3) := by decide +kernel
theorem dX3_hasCells_8 : decode cX3_hasCells 8 = .ok (.iload_n 1, 1) := by decide +kernel
theorem dX3_hasCells_9 : decode cX3_hasCells 9 = .ok (.aload_n 0, 1) := by decide +kernel
theorem dX3_hasCells_10 : decode cX3_hasCells 10 = .ok (.getfield 15, 3) := by decide +kernel
theorem dX3_hasCells_13 : decode cX3_hasCells 13 = .ok (.if_icmp .gt 17, 3) := by decide +kernel
theorem dX3_hasCells_16 : decode cX3_hasCells 16 = .ok (.iload_n 2, 1) := by decide +kernel
theorem dX3_hasCells_17 : decode cX3_hasCells 17 = .ok (.aload_n 0, 1) := by decide +kernel
theorem dX3_hasCells_18 : decode cX3_hasCells 18 = .ok (.getfield 15, 3) := by decide +kernel
theorem dX3_hasCells_21 : decode cX3_hasCells 21 = .ok (.iload_n 1, 1) := by decide +kernel
theorem dX3_hasCells_22 : decode cX3_hasCells 22 = .ok (.isub, 1) := by decide +kernel
theorem dX3_hasCells_23 : decode cX3_hasCells 23 = .ok (.if_icmp .gt 7, 3) := by decide +kernel
theorem dX3_hasCells_26 : decode cX3_hasCells 26 = .ok (.iconst 1, 1) := by decide +kernel
theorem dX3_hasCells_27 : decode cX3_hasCells 27 = .ok (.goto 4, 3) := by decide +kernel
theorem dX3_hasCells_30 : decode cX3_hasCells 30 = .ok (.iconst 0, 1) := by decide +kernel
theorem dX3_hasCells_31 : decode cX3_hasCells 31 = .ok (.ireturn, 1) := by decide +kernel
set_option maxRecDepth 20000 in
theorem S_X3_hasCells_0 {g : GG} {d : Nat} {F : Int32 → St → Prop} {k : Nat} (hk : k < 4) (a1 : Int32) (a2 : Int32) (σ : St) (h : ((a1 < 0 → F 0 σ) ∧ (¬ a1 < 0 → ((a2 < 0 → F 0 σ) ∧ (¬ a2 < 0 → (((σ (2 + k) 2) < a1 → F 0 σ) ∧ (¬ (σ (2 + k) 2) < a1 → ((((σ (2 + k) 2) - a1) < a2 → F 0 σ) ∧ (¬ ((σ (2 + k) 2) - a1) < a2 → F 1 σ))))))))) : VM g d M_X3_hasCells (qI F) 0 [(0, vR (2 + k)), (1, vI a1), (2, vI a2)] [] σ := by
  refine VE_iload_n 1 dX3_hasCells_0 (k := ?_)
  refine VE_if_lt 30 dX3_hasCells_1 (fun c1 => ?_) (fun c1 => ?_)
  · refine VE_iconst 0 dX3_hasCells_30 (k := ?_)
    exact VM_zret dX3_hasCells_31 (h.1 c1) (by decide)
  · refine VE_iload_n 2 dX3_hasCells_4 (k := ?_)
    refine VE_if_lt 30 dX3_hasCells_5 (fun c2 => ?_) (fun c2 => ?_)
    · refine VE_iconst 0 dX3_hasCells_30 (k := ?_)
      exact VM_zret dX3_hasCells_31 ((h.2 c1).1 c2) (by decide)
    · refine VE_iload_n 1 dX3_hasCells_8 (k := ?_)
      refine VE_aload_n 0 dX3_hasCells_9 (k := ?_)
      refine VE_getI dX3_hasCells_10 fl_X3_15 ?_ (sh_f2 hk)
      refine VE_icmp_gt 30 dX3_hasCells_13 (fun c3 => ?_) (fun c3 => ?_)
      · refine VE_iconst 0 dX3_hasCells_30 (k := ?_)
        exact VM_zret dX3_hasCells_31 (((h.2 c1).2 c2).1 c3) (by decide)
      · refine VE_iload_n 2 dX3_hasCells_16 (k := ?_)
        refine VE_aload_n 0 dX3_hasCells_17 (k := ?_)
        refine VE_getI dX3_hasCells_18 fl_X3_15 ?_ (sh_f2 hk)
        refine VE_iload_n 1 dX3_hasCells_21 (k := ?_)
        refine VE_isub dX3_hasCells_22 ?_
        refine VE_icmp_gt 30 dX3_hasCells_23 (fun c4 => ?_) (fun c4 => ?_)
        · refine VE_iconst 0 dX3_hasCells_30 (k := ?_)
          exact VM_zret dX3_hasCells_31 ((((h.2 c1).2 c2).2 c3).1 c4) (by decide)
        · refine VE_iconst 1 dX3_hasCells_26 (k := ?_)
          refine VE_goto 31 dX3_hasCells_27 ?_
          exact VM_zret dX3_hasCells_31 ((((h.2 c1).2 c2).2 c3).2 c4) (by decide)
theorem dX3_faultOfCells_0 : decode cX3_faultOfCells 0 = .ok (.aload_n 0, 1) := by decide +kernel
theorem dX3_faultOfCells_1 : decode cX3_faultOfCells 1 = .ok (.invokevirtual 22, 3) := by decide +kernel
theorem dX3_faultOfCells_4 : decode cX3_faultOfCells 4 = .ok (.ifCond .eq 6, 3) := by decide +kernel
theorem dX3_faultOfCells_7 : decode cX3_faultOfCells 7 = .ok (.bipush (-11), 2) := by decide +kernel
theorem dX3_faultOfCells_9 : decode cX3_faultOfCells 9 = .ok (.ireturn, 1) := by decide +kernel
theorem dX3_faultOfCells_10 : decode cX3_faultOfCells 10 = .ok (.aload_n 0, 1) := by decide +kernel
theorem dX3_faultOfCells_11 : decode cX3_faultOfCells 11 = .ok (.getfield 19, 3) := by decide +kernel
theorem dX3_faultOfCells_14 : decode cX3_faultOfCells 14 = .ok (.iload_n 1, 1) := by decide +kernel
theorem dX3_faultOfCells_15 : decode cX3_faultOfCells 15 = .ok (.if_icmp .eq 6, 3) := by decide +kernel
theorem dX3_faultOfCells_18 : decode cX3_faultOfCells 18 = .ok (.bipush (-12), 2) := by decide +kernel
theorem dX3_faultOfCells_20 : decode cX3_faultOfCells 20 = .ok (.ireturn, 1) := by decide +kernel
theorem dX3_faultOfCells_21 : decode cX3_faultOfCells 21 = .ok (.iload_n 3, 1) := by decide +kernel
theorem dX3_faultOfCells_22 : decode cX3_faultOfCells 22 = .ok (.ifCond .ge 6, 3) := by decide +kernel
theorem dX3_faultOfCells_25 : decode cX3_faultOfCells 25 = .ok (.bipush (-14), 2) := by decide +kernel
theorem dX3_faultOfCells_27 : decode cX3_faultOfCells 27 = .ok (.ireturn, 1) := by decide +kernel
theorem dX3_faultOfCells_28 : decode cX3_faultOfCells 28 = .ok (.aload_n 0, 1) := by decide +kernel
theorem dX3_faultOfCells_29 : decode cX3_faultOfCells 29 = .ok (.iload_n 2, 1) := by decide +kernel
theorem dX3_faultOfCells_30 : decode cX3_faultOfCells 30 = .ok (.iload_n 3, 1) := by decide +kernel
theorem dX3_faultOfCells_31 : decode cX3_faultOfCells 31 = .ok (.invokevirtual 26, 3) := by decide +kernel
theorem dX3_faultOfCells_34 : decode cX3_faultOfCells 34 = .ok (.ifCond .eq 7, 3) := by decide +kernel
theorem dX3_faultOfCells_37 : decode cX3_faultOfCells 37 = .ok (.iconst 0, 1) := by decide +kernel
theorem dX3_faultOfCells_38 : decode cX3_faultOfCells 38 = .ok (.goto 5, 3) := by decide +kernel
theorem dX3_faultOfCells_41 : decode cX3_faultOfCells 41 = .ok (.bipush (-13), 2) := by decide +kernel
theorem dX3_faultOfCells_43 : decode cX3_faultOfCells 43 = .ok (.ireturn, 1) := by decide +kernel
set_option maxRecDepth 20000 in
theorem S_X3_faultOfCells_0 {g : GG} {d : Nat} {F : Int32 → St → Prop} {k : Nat} (hk : k < 4) (a1 : Int32) (a2 : Int32) (a3 : Int32) (σ : St) (h : (ME g d M_X3_isNothing [vR (2 + k)] σ (qI (fun r1 σ2 => ((r1 = 0 → (((σ2 (2 + k) 1) = a1 → ((0 ≤ a3 → (ME g d M_X3_hasCells [vR (2 + k), vI a2, vI a3] σ2 (qI (fun r7 σ8 => ((r7 = 0 → F (-13) σ8) ∧ (¬ r7 = 0 → F 0 σ8)))))) ∧ (¬ 0 ≤ a3 → F (-14) σ2))) ∧ (¬ (σ2 (2 + k) 1) = a1 → F (-12) σ2))) ∧ (¬ r1 = 0 → F (-11) σ2)))))) : VM g (d + 1) M_X3_faultOfCells (qI F) 0 [(0, vR (2 + k)), (1, vI a1), (2, vI a2), (3, vI a3)] [] σ := by
  refine VE_aload_n 0 dX3_faultOfCells_0 (k := ?_)
  refine VE_cVi [] dX3_faultOfCells_1 ml_X3_22 h (fun r1 σ2 h3 => ?_) (rok_D d) (hj := sh_ocl hk)
  refine VE_if_eq 10 dX3_faultOfCells_4 (fun c4 => ?_) (fun c4 => ?_)
  · refine VE_aload_n 0 dX3_faultOfCells_10 (k := ?_)
    refine VE_getI dX3_faultOfCells_11 fl_X3_19 ?_ (sh_f1 hk)
    refine VE_iload_n 1 dX3_faultOfCells_14 (k := ?_)
    refine VE_icmp_eq 21 dX3_faultOfCells_15 (fun c5 => ?_) (fun c5 => ?_)
    · refine VE_iload_n 3 dX3_faultOfCells_21 (k := ?_)
      refine VE_if_ge 28 dX3_faultOfCells_22 (fun c6 => ?_) (fun c6 => ?_)
      · refine VE_aload_n 0 dX3_faultOfCells_28 (k := ?_)
        refine VE_iload_n 2 dX3_faultOfCells_29 (k := ?_)
        refine VE_iload_n 3 dX3_faultOfCells_30 (k := ?_)
        refine VE_cVi [vI a2, vI a3] dX3_faultOfCells_31 ml_X3_26 (((h3.1 c4).1 c5).1 c6) (fun r7 σ8 h9 => ?_) (rok_D d) (hj := sh_ocl hk)
        refine VE_if_eq 41 dX3_faultOfCells_34 (fun c10 => ?_) (fun c10 => ?_)
        · refine VE_bipush (-13) dX3_faultOfCells_41 (k := ?_)
          exact VM_iret dX3_faultOfCells_43 (h9.1 c10)
        · refine VE_iconst 0 dX3_faultOfCells_37 (k := ?_)
          refine VE_goto 43 dX3_faultOfCells_38 ?_
          exact VM_iret dX3_faultOfCells_43 (h9.2 c10)
      · refine VE_bipush (-14) dX3_faultOfCells_25 (k := ?_)
        exact VM_iret dX3_faultOfCells_27 (((h3.1 c4).1 c5).2 c6)
    · refine VE_bipush (-12) dX3_faultOfCells_18 (k := ?_)
      exact VM_iret dX3_faultOfCells_20 ((h3.1 c4).2 c5)
  · refine VE_bipush (-11) dX3_faultOfCells_7 (k := ?_)
    exact VM_iret dX3_faultOfCells_9 (h3.2 c4)
end
section
theorem dX4_court_0 : decode cX4_court 0 = .ok (.aload_n 0, 1) := by decide +kernel
theorem dX4_court_1 : decode cX4_court 1 = .ok (.aload_n 0, 1) := by decide +kernel
theorem dX4_court_2 : decode cX4_court 2 = .ok (.iload_n 1, 1) := by decide +kernel
theorem dX4_court_3 : decode cX4_court 3 = .ok (.iload_n 2, 1) := by decide +kernel
theorem dX4_court_4 : decode cX4_court 4 = .ok (.iload_n 3, 1) := by decide +kernel
theorem dX4_court_5 : decode cX4_court 5 = .ok (.iload 4, 2) := by decide +kernel
theorem dX4_court_7 : decode cX4_court 7 = .ok (.invokevirtual 43, 3) := by decide +kernel
theorem dX4_court_10 : decode cX4_court 10 = .ok (.invokevirtual 47, 3) := by decide +kernel
theorem dX4_court_13 : decode cX4_court 13 = .ok (.istore 5, 2) := by decide +kernel
theorem dX4_court_15 : decode cX4_court 15 = .ok (.iload 5, 2) := by decide +kernel
theorem dX4_court_17 : decode cX4_court 17 = .ok (.ifCond .eq 6, 3) := by decide +kernel
theorem dX4_court_20 : decode cX4_court 20 = .ok (.iload 5, 2) := by decide +kernel
theorem dX4_court_22 : decode cX4_court 22 = .ok (.ireturn, 1) := by decide +kernel
theorem dX4_court_23 : decode cX4_court 23 = .ok (.aload_n 0, 1) := by decide +kernel
theorem dX4_court_24 : decode cX4_court 24 = .ok (.getfield 13, 3) := by decide +kernel
theorem dX4_court_27 : decode cX4_court 27 = .ok (.iload_n 1, 1) := by decide +kernel
theorem dX4_court_28 : decode cX4_court 28 = .ok (.aaload, 1) := by decide +kernel
theorem dX4_court_29 : decode cX4_court 29 = .ok (.iload_n 3, 1) := by decide +kernel
theorem dX4_court_30 : decode cX4_court 30 = .ok (.iload 4, 2) := by decide +kernel
theorem dX4_court_32 : decode cX4_court 32 = .ok (.invokestatic 51, 3) := by decide +kernel
theorem dX4_court_35 : decode cX4_court 35 = .ok (.istore 6, 2) := by decide +kernel
theorem dX4_court_37 : decode cX4_court 37 = .ok (.iload 6, 2) := by decide +kernel
theorem dX4_court_39 : decode cX4_court 39 = .ok (.bipush (-9), 2) := by decide +kernel
theorem dX4_court_41 : decode cX4_court 41 = .ok (.if_icmp .eq 9, 3) := by decide +kernel
theorem dX4_court_44 : decode cX4_court 44 = .ok (.bipush (-100), 2) := by decide +kernel
theorem dX4_court_46 : decode cX4_court 46 = .ok (.iload 6, 2) := by decide +kernel
theorem dX4_court_48 : decode cX4_court 48 = .ok (.isub, 1) := by decide +kernel
theorem dX4_court_49 : decode cX4_court 49 = .ok (.ireturn, 1) := by decide +kernel
theorem dX4_court_50 : decode cX4_court 50 = .ok (.aload_n 0, 1) := by decide +kernel
theorem dX4_court_51 : decode cX4_court 51 = .ok (.getfield 21, 3) := by decide +kernel
theorem dX4_court_54 : decode cX4_court 54 = .ok (.aload_n 0, 1) := by decide +kernel
theorem dX4_court_55 : decode cX4_court 55 = .ok (.getfield 13, 3) := by decide +kernel
theorem dX4_court_58 : decode cX4_court 58 = .ok (.iload_n 1, 1) := by decide +kernel
theorem dX4_court_59 : decode cX4_court 59 = .ok (.aaload, 1) := by decide +kernel
theorem dX4_court_60 : decode cX4_court 60 = .ok (.iload_n 3, 1) := by decide +kernel
theorem dX4_court_61 : decode cX4_court 61 = .ok (.iload 4, 2) := by decide +kernel
theorem dX4_court_63 : decode cX4_court 63 = .ok (.iconst 1, 1) := by decide +kernel
theorem dX4_court_64 : decode cX4_court 64 = .ok (.isub, 1) := by decide +kernel
theorem dX4_court_65 : decode cX4_court 65 = .ok (.iconst 4, 1) := by decide +kernel
theorem dX4_court_66 : decode cX4_court 66 = .ok (.idiv, 1) := by decide +kernel
theorem dX4_court_67 : decode cX4_court 67 = .ok (.invokevirtual 55, 3) := by decide +kernel
theorem dX4_court_70 : decode cX4_court 70 = .ok (.aload_n 0, 1) := by decide +kernel
theorem dX4_court_71 : decode cX4_court 71 = .ok (.getfield 35, 3) := by decide +kernel
theorem dX4_court_74 : decode cX4_court 74 = .ok (.iconst 0, 1) := by decide +kernel
theorem dX4_court_75 : decode cX4_court 75 = .ok (.putfield 59, 3) := by decide +kernel
theorem dX4_court_78 : decode cX4_court 78 = .ok (.aload_n 0, 1) := by decide +kernel
theorem dX4_court_79 : decode cX4_court 79 = .ok (.getfield 21, 3) := by decide +kernel
theorem dX4_court_82 : decode cX4_court 82 = .ok (.getfield 63, 3) := by decide +kernel
theorem dX4_court_85 : decode cX4_court 85 = .ok (.ireturn, 1) := by decide +kernel
set_option maxRecDepth 20000 in
theorem S_X4_court_0 {g : GG} {d : Nat} {F : Int32 → St → Prop} (a1 : Int32) (a2 : Int32) (a3 : Int32) (a4 : Int32) (σ : St) (h : (ME g d M_X4_troubleOfCells [vR 0, vI a1, vI a2, vI a3, vI a4] σ (qI (fun r1 σ2 => (ME g d M_X4_noted [vR 0, vI r1] σ2 (qI (fun r4 σ5 => ((r4 = 0 → (vp_in a1 4 ∧ (ME g d M_X4_firstFault [vR (2 + a1.toNatClampNeg), vI a3, vI a4] σ5 (qI (fun r8 σ9 => ((r8 = (-9) → (ME g d M_X0_gather [vR 10, vR (2 + a1.toNatClampNeg), vI a3, vI ((a4 - 1) / 4)] σ9 (qV (fun σ13 => F (σ13 10 3) (sU σ13 18 3 0))))) ∧ (¬ r8 = (-9) → F ((-100) - r8) σ9))))))) ∧ (¬ r4 = 0 → F r4 σ5))))))))) : VM g (d + 1) M_X4_court (qI F) 0 [(0, vR 0), (1, vI a1), (2, vI a2), (3, vI a3), (4, vI a4)] [] σ := by
  refine VE_aload_n 0 dX4_court_0 (k := ?_)
  refine VE_aload_n 0 dX4_court_1 (k := ?_)
  refine VE_iload_n 1 dX4_court_2 (k := ?_)
  refine VE_iload_n 2 dX4_court_3 (k := ?_)
  refine VE_iload_n 3 dX4_court_4 (k := ?_)
  refine VE_iload 4 dX4_court_5 (k := ?_)
  refine VE_cVi [vI a1, vI a2, vI a3, vI a4] dX4_court_7 ml_X4_43 h (fun r1 σ2 h3 => ?_) (rok_D d)
  refine VE_cVi [vI r1] dX4_court_10 ml_X4_47 h3 (fun r4 σ5 h6 => ?_) (rok_D d)
  refine VE_istore (ls' := [(5, vI r4), (0, vR 0), (1, vI a1), (2, vI a2), (3, vI a3), (4, vI a4)]) dX4_court_13 ?_
  refine VE_iload 0 dX4_court_15 (k := ?_)
  refine VE_if_eq 23 dX4_court_17 (fun c7 => ?_) (fun c7 => ?_)
  · refine VE_aload_n 1 dX4_court_23 (k := ?_)
    refine VE_getR 1 dX4_court_24 fl_X4_13 ?_
    refine VE_iload_n 2 dX4_court_27 (k := ?_)
    refine VE_aald dX4_court_28 (h6.1 c7).1 ?_
    refine VE_iload_n 4 dX4_court_29 (k := ?_)
    refine VE_iload 5 dX4_court_30 (k := ?_)
    refine VE_cSi [vR (2 + a1.toNatClampNeg), vI a3, vI a4] dX4_court_32 ml_X4_51 (h6.1 c7).2 (fun r8 σ9 h10 => ?_) (rok_D d)
    refine VE_istore (ls' := [(6, vI r8), (5, vI r4), (0, vR 0), (1, vI a1), (2, vI a2), (3, vI a3), (4, vI a4)]) dX4_court_35 ?_
    refine VE_iload 0 dX4_court_37 (k := ?_)
    refine VE_bipush (-9) dX4_court_39 (k := ?_)
    refine VE_icmp_eq 50 dX4_court_41 (fun c11 => ?_) (fun c11 => ?_)
    · refine VE_aload_n 2 dX4_court_50 (k := ?_)
      refine VE_getR 10 dX4_court_51 fl_X4_21 ?_
      refine VE_aload_n 2 dX4_court_54 (k := ?_)
      refine VE_getR 1 dX4_court_55 fl_X4_13 ?_
      refine VE_iload_n 3 dX4_court_58 (k := ?_)
      refine VE_aald dX4_court_59 (h6.1 c7).1 ?_
      refine VE_iload_n 5 dX4_court_60 (k := ?_)
      refine VE_iload 6 dX4_court_61 (k := ?_)
      refine VE_iconst 1 dX4_court_63 (k := ?_)
      refine VE_isub dX4_court_64 ?_
      refine VE_iconst 4 dX4_court_65 (k := ?_)
      refine VE_idiv dX4_court_66 (by decide) ?_
      refine VE_cVv [vR (2 + a1.toNatClampNeg), vI a3, vI ((a4 - 1) / 4)] dX4_court_67 ml_X4_55 (h10.1 c11) (fun σ13 h14 => ?_) (rok_D d)
      refine VE_aload_n 2 dX4_court_70 (k := ?_)
      refine VE_getR 18 dX4_court_71 fl_X4_35 ?_
      refine VE_iconst 0 dX4_court_74 (k := ?_)
      refine VE_put dX4_court_75 fl_X4_59 ?_
      refine VE_aload_n 2 dX4_court_78 (k := ?_)
      refine VE_getR 10 dX4_court_79 fl_X4_21 ?_
      refine VE_getI dX4_court_82 fl_X4_63 ?_
      exact VM_iret dX4_court_85 h14
    · refine VE_bipush (-100) dX4_court_44 (k := ?_)
      refine VE_iload 0 dX4_court_46 (k := ?_)
      refine VE_isub dX4_court_48 ?_
      exact VM_iret dX4_court_49 (h10.2 c11)
  · refine VE_iload 0 dX4_court_20 (k := ?_)
    exact VM_iret dX4_court_22 (h6.2 c7)
theorem dX4_ofHead_0 : decode cX4_ofHead 0 = .ok (.aload_n 0, 1) := by decide +kernel
theorem dX4_ofHead_1 : decode cX4_ofHead 1 = .ok (.getfield 21, 3) := by decide +kernel
theorem dX4_ofHead_4 : decode cX4_ofHead 4 = .ok (.iload_n 1, 1) := by decide +kernel
theorem dX4_ofHead_5 : decode cX4_ofHead 5 = .ok (.invokevirtual 64, 3) := by decide +kernel
theorem dX4_ofHead_8 : decode cX4_ofHead 8 = .ok (.ifCond .ne 5, 3) := by decide +kernel
theorem dX4_ofHead_11 : decode cX4_ofHead 11 = .ok (.iconst (-1), 1) := by decide +kernel
theorem dX4_ofHead_12 : decode cX4_ofHead 12 = .ok (.ireturn, 1) := by decide +kernel
theorem dX4_ofHead_13 : decode cX4_ofHead 13 = .ok (.iload_n 2, 1) := by decide +kernel
theorem dX4_ofHead_14 : decode cX4_ofHead 14 = .ok (.tableswitch 82 0 3 #[30, 40, 50, 60], 30) := by decide +kernel
theorem dX4_ofHead_44 : decode cX4_ofHead 44 = .ok (.aload_n 0, 1) := by decide +kernel
theorem dX4_ofHead_45 : decode cX4_ofHead 45 = .ok (.getfield 21, 3) := by decide +kernel
theorem dX4_ofHead_48 : decode cX4_ofHead 48 = .ok (.getfield 68, 3) := by decide +kernel
theorem dX4_ofHead_51 : decode cX4_ofHead 51 = .ok (.iload_n 1, 1) := by decide +kernel
theorem dX4_ofHead_52 : decode cX4_ofHead 52 = .ok (.iaload, 1) := by decide +kernel
theorem dX4_ofHead_53 : decode cX4_ofHead 53 = .ok (.ireturn, 1) := by decide +kernel
theorem dX4_ofHead_54 : decode cX4_ofHead 54 = .ok (.aload_n 0, 1) := by decide +kernel
theorem dX4_ofHead_55 : decode cX4_ofHead 55 = .ok (.getfield 21, 3) := by decide +kernel
theorem dX4_ofHead_58 : decode cX4_ofHead 58 = .ok (.getfield 71, 3) := by decide +kernel
theorem dX4_ofHead_61 : decode cX4_ofHead 61 = .ok (.iload_n 1, 1) := by decide +kernel
theorem dX4_ofHead_62 : decode cX4_ofHead 62 = .ok (.iaload, 1) := by decide +kernel
theorem dX4_ofHead_63 : decode cX4_ofHead 63 = .ok (.ireturn, 1) := by decide +kernel
theorem dX4_ofHead_64 : decode cX4_ofHead 64 = .ok (.aload_n 0, 1) := by decide +kernel
theorem dX4_ofHead_65 : decode cX4_ofHead 65 = .ok (.getfield 21, 3) := by decide +kernel
theorem dX4_ofHead_68 : decode cX4_ofHead 68 = .ok (.getfield 74, 3) := by decide +kernel
theorem dX4_ofHead_71 : decode cX4_ofHead 71 = .ok (.iload_n 1, 1) := by decide +kernel
theorem dX4_ofHead_72 : decode cX4_ofHead 72 = .ok (.iaload, 1) := by decide +kernel
theorem dX4_ofHead_73 : decode cX4_ofHead 73 = .ok (.ireturn, 1) := by decide +kernel
theorem dX4_ofHead_74 : decode cX4_ofHead 74 = .ok (.aload_n 0, 1) := by decide +kernel
theorem dX4_ofHead_75 : decode cX4_ofHead 75 = .ok (.getfield 21, 3) := by decide +kernel
theorem dX4_ofHead_78 : decode cX4_ofHead 78 = .ok (.getfield 68, 3) := by decide +kernel
theorem dX4_ofHead_81 : decode cX4_ofHead 81 = .ok (.iload_n 1, 1) := by decide +kernel
theorem dX4_ofHead_82 : decode cX4_ofHead 82 = .ok (.iaload, 1) := by decide +kernel
theorem dX4_ofHead_83 : decode cX4_ofHead 83 = .ok (.aload_n 0, 1) := by decide +kernel
theorem dX4_ofHead_84 : decode cX4_ofHead 84 = .ok (.getfield 21, 3) := by decide +kernel
theorem dX4_ofHead_87 : decode cX4_ofHead 87 = .ok (.getfield 71, 3) := by decide +kernel
theorem dX4_ofHead_90 : decode cX4_ofHead 90 = .ok (.iload_n 1, 1) := by decide +kernel
theorem dX4_ofHead_91 : decode cX4_ofHead 91 = .ok (.iaload, 1) := by decide +kernel
theorem dX4_ofHead_92 : decode cX4_ofHead 92 = .ok (.invokestatic 77, 3) := by decide +kernel
theorem dX4_ofHead_95 : decode cX4_ofHead 95 = .ok (.ireturn, 1) := by decide +kernel
theorem dX4_ofHead_96 : decode cX4_ofHead 96 = .ok (.bipush (-2), 2) := by decide +kernel
theorem dX4_ofHead_98 : decode cX4_ofHead 98 = .ok (.ireturn, 1) := by decide +kernel
set_option maxRecDepth 20000 in
theorem S_X4_ofHead_0 {g : GG} {d : Nat} {F : Int32 → St → Prop} (a1 : Int32) (a2 : Int32) (σ : St) (h : (ME g d M_X0_has [vR 10, vI a1] σ (qI (fun r1 σ2 => ((¬ r1 = 0 → ((a2 = 0 → (vp_in a1 5 ∧ F (σ2 11 a1.toNatClampNeg) σ2)) ∧ (¬ a2 = 0 → ((a2 = 1 → (vp_in a1 5 ∧ F (σ2 12 a1.toNatClampNeg) σ2)) ∧ (¬ a2 = 1 → ((a2 = 2 → (vp_in a1 5 ∧ F (σ2 13 a1.toNatClampNeg) σ2)) ∧ (¬ a2 = 2 → ((a2 = 3 → (vp_in a1 5 ∧ (ME g d M_X4_lasting [vI (σ2 11 a1.toNatClampNeg), vI (σ2 12 a1.toNatClampNeg)] σ2 (qI (fun r9 σ10 => F r9 σ10))))) ∧ (¬ a2 = 3 → F (-2) σ2))))))))) ∧ (r1 = 0 → F (-1) σ2)))))) : VM g (d + 1) M_X4_ofHead (qI F) 0 [(0, vR 0), (1, vI a1), (2, vI a2)] [] σ := by
  refine VE_aload_n 0 dX4_ofHead_0 (k := ?_)
  refine VE_getR 10 dX4_ofHead_1 fl_X4_21 ?_
  refine VE_iload_n 1 dX4_ofHead_4 (k := ?_)
  refine VE_cVi [vI a1] dX4_ofHead_5 ml_X4_64 h (fun r1 σ2 h3 => ?_) (rok_D d)
  refine VE_if_ne 13 dX4_ofHead_8 (fun c4 => ?_) (fun c4 => ?_)
  · refine VE_iload_n 2 dX4_ofHead_13 (k := ?_)
    by_cases c5 : a2 = 0
    · refine VE_tableIn 44 dX4_ofHead_14 (by rw [c5]; decide) (by rw [c5]; decide) (by rw [c5]; rfl) ?_
      refine VE_aload_n 0 dX4_ofHead_44 (k := ?_)
      refine VE_getR 10 dX4_ofHead_45 fl_X4_21 ?_
      refine VE_getR 11 dX4_ofHead_48 fl_X4_68 ?_
      refine VE_iload_n 1 dX4_ofHead_51 (k := ?_)
      refine VE_iald dX4_ofHead_52 ((h3.1 c4).1 c5).1 ?_
      exact VM_iret dX4_ofHead_53 ((h3.1 c4).1 c5).2
    · by_cases c6 : a2 = 1
      · refine VE_tableIn 54 dX4_ofHead_14 (by rw [c6]; decide) (by rw [c6]; decide) (by rw [c6]; rfl) ?_
        refine VE_aload_n 0 dX4_ofHead_54 (k := ?_)
        refine VE_getR 10 dX4_ofHead_55 fl_X4_21 ?_
        refine VE_getR 12 dX4_ofHead_58 fl_X4_71 ?_
        refine VE_iload_n 1 dX4_ofHead_61 (k := ?_)
        refine VE_iald dX4_ofHead_62 (((h3.1 c4).2 c5).1 c6).1 ?_
        exact VM_iret dX4_ofHead_63 (((h3.1 c4).2 c5).1 c6).2
      · by_cases c7 : a2 = 2
        · refine VE_tableIn 64 dX4_ofHead_14 (by rw [c7]; decide) (by rw [c7]; decide) (by rw [c7]; rfl) ?_
          refine VE_aload_n 0 dX4_ofHead_64 (k := ?_)
          refine VE_getR 10 dX4_ofHead_65 fl_X4_21 ?_
          refine VE_getR 13 dX4_ofHead_68 fl_X4_74 ?_
          refine VE_iload_n 1 dX4_ofHead_71 (k := ?_)
          refine VE_iald dX4_ofHead_72 ((((h3.1 c4).2 c5).2 c6).1 c7).1 ?_
          exact VM_iret dX4_ofHead_73 ((((h3.1 c4).2 c5).2 c6).1 c7).2
        · by_cases c8 : a2 = 3
          · refine VE_tableIn 74 dX4_ofHead_14 (by rw [c8]; decide) (by rw [c8]; decide) (by rw [c8]; rfl) ?_
            refine VE_aload_n 0 dX4_ofHead_74 (k := ?_)
            refine VE_getR 10 dX4_ofHead_75 fl_X4_21 ?_
            refine VE_getR 11 dX4_ofHead_78 fl_X4_68 ?_
            refine VE_iload_n 1 dX4_ofHead_81 (k := ?_)
            refine VE_iald dX4_ofHead_82 (((((h3.1 c4).2 c5).2 c6).2 c7).1 c8).1 ?_
            refine VE_aload_n 0 dX4_ofHead_83 (k := ?_)
            refine VE_getR 10 dX4_ofHead_84 fl_X4_21 ?_
            refine VE_getR 12 dX4_ofHead_87 fl_X4_71 ?_
            refine VE_iload_n 1 dX4_ofHead_90 (k := ?_)
            refine VE_iald dX4_ofHead_91 (((((h3.1 c4).2 c5).2 c6).2 c7).1 c8).1 ?_
            refine VE_cSi [vI (σ2 11 a1.toNatClampNeg), vI (σ2 12 a1.toNatClampNeg)] dX4_ofHead_92 ml_X4_77 (((((h3.1 c4).2 c5).2 c6).2 c7).1 c8).2 (fun r9 σ10 h11 => ?_) (rok_D d)
            exact VM_iret dX4_ofHead_95 h11
          · refine VE_tableOut 96 dX4_ofHead_14 (by have e0 : ¬ a2.toInt = 0 := i32_ne c5; have e1 : ¬ a2.toInt = 1 := i32_ne c6; have e2 : ¬ a2.toInt = 2 := i32_ne c7; have e3 : ¬ a2.toInt = 3 := i32_ne c8; omega) ?_
            refine VE_bipush (-2) dX4_ofHead_96 (k := ?_)
            exact VM_iret dX4_ofHead_98 (((((h3.1 c4).2 c5).2 c6).2 c7).2 c8)
  · refine VE_iconst (-1) dX4_ofHead_11 (k := ?_)
    exact VM_iret dX4_ofHead_12 (h3.2 c4)
theorem dX4_wear_0 : decode cX4_wear 0 = .ok (.aload_n 0, 1) := by decide +kernel
theorem dX4_wear_1 : decode cX4_wear 1 = .ok (.getfield 21, 3) := by decide +kernel
theorem dX4_wear_4 : decode cX4_wear 4 = .ok (.iload_n 1, 1) := by decide +kernel
theorem dX4_wear_5 : decode cX4_wear 5 = .ok (.invokevirtual 64, 3) := by decide +kernel
theorem dX4_wear_8 : decode cX4_wear 8 = .ok (.ifCond .ne 5, 3) := by decide +kernel
theorem dX4_wear_11 : decode cX4_wear 11 = .ok (.iconst (-1), 1) := by decide +kernel
theorem dX4_wear_12 : decode cX4_wear 12 = .ok (.ireturn, 1) := by decide +kernel
theorem dX4_wear_13 : decode cX4_wear 13 = .ok (.iload_n 2, 1) := by decide +kernel
theorem dX4_wear_14 : decode cX4_wear 14 = .ok (.iconst 1, 1) := by decide +kernel
theorem dX4_wear_15 : decode cX4_wear 15 = .ok (.if_icmp .lt 9, 3) := by decide +kernel
theorem dX4_wear_18 : decode cX4_wear 18 = .ok (.iload_n 2, 1) := by decide +kernel
theorem dX4_wear_19 : decode cX4_wear 19 = .ok (.bipush 9, 2) := by decide +kernel
theorem dX4_wear_21 : decode cX4_wear 21 = .ok (.if_icmp .le 6, 3) := by decide +kernel
theorem dX4_wear_24 : decode cX4_wear 24 = .ok (.bipush (-2), 2) := by decide +kernel
theorem dX4_wear_26 : decode cX4_wear 26 = .ok (.ireturn, 1) := by decide +kernel
theorem dX4_wear_27 : decode cX4_wear 27 = .ok (.aload_n 0, 1) := by decide +kernel
theorem dX4_wear_28 : decode cX4_wear 28 = .ok (.getfield 21, 3) := by decide +kernel
theorem dX4_wear_31 : decode cX4_wear 31 = .ok (.getfield 71, 3) := by decide +kernel
theorem dX4_wear_34 : decode cX4_wear 34 = .ok (.iload_n 1, 1) := by decide +kernel
theorem dX4_wear_35 : decode cX4_wear 35 = .ok (.iaload, 1) := by decide +kernel
theorem dX4_wear_36 : decode cX4_wear 36 = .ok (.istore_n 3, 1) := by decide +kernel
theorem dX4_wear_37 : decode cX4_wear 37 = .ok (.aload_n 0, 1) := by decide +kernel
theorem dX4_wear_38 : decode cX4_wear 38 = .ok (.getfield 21, 3) := by decide +kernel
theorem dX4_wear_41 : decode cX4_wear 41 = .ok (.getfield 71, 3) := by decide +kernel
theorem dX4_wear_44 : decode cX4_wear 44 = .ok (.iload_n 1, 1) := by decide +kernel
theorem dX4_wear_45 : decode cX4_wear 45 = .ok (.iload_n 2, 1) := by decide +kernel
theorem dX4_wear_46 : decode cX4_wear 46 = .ok (.iastore, 1) := by decide +kernel
theorem dX4_wear_47 : decode cX4_wear 47 = .ok (.iload_n 3, 1) := by decide +kernel
theorem dX4_wear_48 : decode cX4_wear 48 = .ok (.ireturn, 1) := by decide +kernel
set_option maxRecDepth 20000 in
theorem S_X4_wear_0 {g : GG} {d : Nat} {F : Int32 → St → Prop} (a1 : Int32) (a2 : Int32) (σ : St) (h : (ME g d M_X0_has [vR 10, vI a1] σ (qI (fun r1 σ2 => ((¬ r1 = 0 → ((a2 < 1 → F (-2) σ2) ∧ (¬ a2 < 1 → ((a2 ≤ 9 → (vp_in a1 5 ∧ F (σ2 12 a1.toNatClampNeg) (sU σ2 12 a1.toNatClampNeg a2))) ∧ (¬ a2 ≤ 9 → F (-2) σ2))))) ∧ (r1 = 0 → F (-1) σ2)))))) : VM g (d + 1) M_X4_wear (qI F) 0 [(0, vR 0), (1, vI a1), (2, vI a2)] [] σ := by
  refine VE_aload_n 0 dX4_wear_0 (k := ?_)
  refine VE_getR 10 dX4_wear_1 fl_X4_21 ?_
  refine VE_iload_n 1 dX4_wear_4 (k := ?_)
  refine VE_cVi [vI a1] dX4_wear_5 ml_X4_64 h (fun r1 σ2 h3 => ?_) (rok_D d)
  refine VE_if_ne 13 dX4_wear_8 (fun c4 => ?_) (fun c4 => ?_)
  · refine VE_iload_n 2 dX4_wear_13 (k := ?_)
    refine VE_iconst 1 dX4_wear_14 (k := ?_)
    refine VE_icmp_lt 24 dX4_wear_15 (fun c5 => ?_) (fun c5 => ?_)
    · refine VE_bipush (-2) dX4_wear_24 (k := ?_)
      exact VM_iret dX4_wear_26 ((h3.1 c4).1 c5)
    · refine VE_iload_n 2 dX4_wear_18 (k := ?_)
      refine VE_bipush 9 dX4_wear_19 (k := ?_)
      refine VE_icmp_le 27 dX4_wear_21 (fun c6 => ?_) (fun c6 => ?_)
      · refine VE_aload_n 0 dX4_wear_27 (k := ?_)
        refine VE_getR 10 dX4_wear_28 fl_X4_21 ?_
        refine VE_getR 12 dX4_wear_31 fl_X4_71 ?_
        refine VE_iload_n 1 dX4_wear_34 (k := ?_)
        refine VE_iald dX4_wear_35 (((h3.1 c4).2 c5).1 c6).1 ?_
        refine VE_istore_n (ls' := [(3, vI (σ2 12 a1.toNatClampNeg)), (0, vR 0), (1, vI a1), (2, vI a2)]) dX4_wear_36 ?_
        refine VE_aload_n 1 dX4_wear_37 (k := ?_)
        refine VE_getR 10 dX4_wear_38 fl_X4_21 ?_
        refine VE_getR 12 dX4_wear_41 fl_X4_71 ?_
        refine VE_iload_n 2 dX4_wear_44 (k := ?_)
        refine VE_iload_n 3 dX4_wear_45 (k := ?_)
        refine VE_iast dX4_wear_46 (((h3.1 c4).2 c5).1 c6).1 ?_
        refine VE_iload_n 0 dX4_wear_47 (k := ?_)
        exact VM_iret dX4_wear_48 (((h3.1 c4).2 c5).1 c6).2
      · refine VE_bipush (-2) dX4_wear_24 (k := ?_)
        exact VM_iret dX4_wear_26 (((h3.1 c4).2 c5).2 c6)
  · refine VE_iconst (-1) dX4_wear_11 (k := ?_)
    exact VM_iret dX4_wear_12 (h3.2 c4)
theorem dX4_knows_0 : decode cX4_knows 0 = .ok (.aload_n 0, 1) := by decide +kernel
theorem dX4_knows_1 : decode cX4_knows 1 = .ok (.getfield 21, 3) := by decide +kernel
theorem dX4_knows_4 : decode cX4_knows 4 = .ok (.iload_n 1, 1) := by decide +kernel
theorem dX4_knows_5 : decode cX4_knows 5 = .ok (.invokevirtual 64, 3) := by decide +kernel
theorem dX4_knows_8 : decode cX4_knows 8 = .ok (.ifCond .ne 5, 3) := by decide +kernel
theorem dX4_knows_11 : decode cX4_knows 11 = .ok (.iconst (-1), 1) := by decide +kernel
theorem dX4_knows_12 : decode cX4_knows 12 = .ok (.ireturn, 1) := by decide +kernel
theorem dX4_knows_13 : decode cX4_knows 13 = .ok (.iload_n 2, 1) := by decide +kernel
theorem dX4_knows_14 : decode cX4_knows 14 = .ok (.ifCond .lt 8, 3) := by decide +kernel
theorem dX4_knows_17 : decode cX4_knows 17 = .ok (.iload_n 2, 1) := by decide +kernel
theorem dX4_knows_18 : decode cX4_knows 18 = .ok (.iconst 5, 1) := by decide +kernel
theorem dX4_knows_19 : decode cX4_knows 19 = .ok (.if_icmp .le 6, 3) := by decide +kernel
theorem dX4_knows_22 : decode cX4_knows 22 = .ok (.bipush (-2), 2) := by decide +kernel
theorem dX4_knows_24 : decode cX4_knows 24 = .ok (.ireturn, 1) := by decide +kernel
theorem dX4_knows_25 : decode cX4_knows 25 = .ok (.aload_n 0, 1) := by decide +kernel
theorem dX4_knows_26 : decode cX4_knows 26 = .ok (.getfield 21, 3) := by decide +kernel
theorem dX4_knows_29 : decode cX4_knows 29 = .ok (.getfield 74, 3) := by decide +kernel
theorem dX4_knows_32 : decode cX4_knows 32 = .ok (.iload_n 1, 1) := by decide +kernel
theorem dX4_knows_33 : decode cX4_knows 33 = .ok (.iaload, 1) := by decide +kernel
theorem dX4_knows_34 : decode cX4_knows 34 = .ok (.istore_n 3, 1) := by decide +kernel
theorem dX4_knows_35 : decode cX4_knows 35 = .ok (.aload_n 0, 1) := by decide +kernel
theorem dX4_knows_36 : decode cX4_knows 36 = .ok (.getfield 21, 3) := by decide +kernel
theorem dX4_knows_39 : decode cX4_knows 39 = .ok (.getfield 74, 3) := by decide +kernel
theorem dX4_knows_42 : decode cX4_knows 42 = .ok (.iload_n 1, 1) := by decide +kernel
theorem dX4_knows_43 : decode cX4_knows 43 = .ok (.iload_n 2, 1) := by decide +kernel
theorem dX4_knows_44 : decode cX4_knows 44 = .ok (.iastore, 1) := by decide +kernel
theorem dX4_knows_45 : decode cX4_knows 45 = .ok (.iload_n 3, 1) := by decide +kernel
theorem dX4_knows_46 : decode cX4_knows 46 = .ok (.ireturn, 1) := by decide +kernel
set_option maxRecDepth 20000 in
theorem S_X4_knows_0 {g : GG} {d : Nat} {F : Int32 → St → Prop} (a1 : Int32) (a2 : Int32) (σ : St) (h : (ME g d M_X0_has [vR 10, vI a1] σ (qI (fun r1 σ2 => ((¬ r1 = 0 → ((a2 < 0 → F (-2) σ2) ∧ (¬ a2 < 0 → ((a2 ≤ 5 → (vp_in a1 5 ∧ F (σ2 13 a1.toNatClampNeg) (sU σ2 13 a1.toNatClampNeg a2))) ∧ (¬ a2 ≤ 5 → F (-2) σ2))))) ∧ (r1 = 0 → F (-1) σ2)))))) : VM g (d + 1) M_X4_knows (qI F) 0 [(0, vR 0), (1, vI a1), (2, vI a2)] [] σ := by
  refine VE_aload_n 0 dX4_knows_0 (k := ?_)
  refine VE_getR 10 dX4_knows_1 fl_X4_21 ?_
  refine VE_iload_n 1 dX4_knows_4 (k := ?_)
  refine VE_cVi [vI a1] dX4_knows_5 ml_X4_64 h (fun r1 σ2 h3 => ?_) (rok_D d)
  refine VE_if_ne 13 dX4_knows_8 (fun c4 => ?_) (fun c4 => ?_)
  · refine VE_iload_n 2 dX4_knows_13 (k := ?_)
    refine VE_if_lt 22 dX4_knows_14 (fun c5 => ?_) (fun c5 => ?_)
    · refine VE_bipush (-2) dX4_knows_22 (k := ?_)
      exact VM_iret dX4_knows_24 ((h3.1 c4).1 c5)
    · refine VE_iload_n 2 dX4_knows_17 (k := ?_)
      refine VE_iconst 5 dX4_knows_18 (k := ?_)
      refine VE_icmp_le 25 dX4_knows_19 (fun c6 => ?_) (fun c6 => ?_)
      · refine VE_aload_n 0 dX4_knows_25 (k := ?_)
        refine VE_getR 10 dX4_knows_26 fl_X4_21 ?_
        refine VE_getR 13 dX4_knows_29 fl_X4_74 ?_
        refine VE_iload_n 1 dX4_knows_32 (k := ?_)
        refine VE_iald dX4_knows_33 (((h3.1 c4).2 c5).1 c6).1 ?_
        refine VE_istore_n (ls' := [(3, vI (σ2 13 a1.toNatClampNeg)), (0, vR 0), (1, vI a1), (2, vI a2)]) dX4_knows_34 ?_
        refine VE_aload_n 1 dX4_knows_35 (k := ?_)
        refine VE_getR 10 dX4_knows_36 fl_X4_21 ?_
        refine VE_getR 13 dX4_knows_39 fl_X4_74 ?_
        refine VE_iload_n 2 dX4_knows_42 (k := ?_)
        refine VE_iload_n 3 dX4_knows_43 (k := ?_)
        refine VE_iast dX4_knows_44 (((h3.1 c4).2 c5).1 c6).1 ?_
        refine VE_iload_n 0 dX4_knows_45 (k := ?_)
        exact VM_iret dX4_knows_46 (((h3.1 c4).2 c5).1 c6).2
      · refine VE_bipush (-2) dX4_knows_22 (k := ?_)
        exact VM_iret dX4_knows_24 (((h3.1 c4).2 c5).2 c6)
  · refine VE_iconst (-1) dX4_knows_11 (k := ?_)
    exact VM_iret dX4_knows_12 (h3.2 c4)
theorem dX4_visits_0 : decode cX4_visits 0 = .ok (.aload_n 0, 1) := by decide +kernel
theorem dX4_visits_1 : decode cX4_visits 1 = .ok (.aload_n 0, 1) := by decide +kernel
theorem dX4_visits_2 : decode cX4_visits 2 = .ok (.iload_n 1, 1) := by decide +kernel
theorem dX4_visits_3 : decode cX4_visits 3 = .ok (.iload_n 2, 1) := by decide +kernel
theorem dX4_visits_4 : decode cX4_visits 4 = .ok (.iload_n 3, 1) := by decide +kernel
theorem dX4_visits_5 : decode cX4_visits 5 = .ok (.iload 4, 2) := by decide +kernel
theorem dX4_visits_7 : decode cX4_visits 7 = .ok (.iload 5, 2) := by decide +kernel
theorem dX4_visits_9 : decode cX4_visits 9 = .ok (.invokestatic 81, 3) := by decide +kernel
theorem dX4_visits_12 : decode cX4_visits 12 = .ok (.invokevirtual 84, 3) := by decide +kernel
theorem dX4_visits_15 : decode cX4_visits 15 = .ok (.invokevirtual 47, 3) := by decide +kernel
theorem dX4_visits_18 : decode cX4_visits 18 = .ok (.istore 6, 2) := by decide +kernel
theorem dX4_visits_20 : decode cX4_visits 20 = .ok (.iload 6, 2) := by decide +kernel
theorem dX4_visits_22 : decode cX4_visits 22 = .ok (.ifCond .eq 6, 3) := by decide +kernel
theorem dX4_visits_25 : decode cX4_visits 25 = .ok (.iload 6, 2) := by decide +kernel
theorem dX4_visits_27 : decode cX4_visits 27 = .ok (.ireturn, 1) := by decide +kernel
theorem dX4_visits_28 : decode cX4_visits 28 = .ok (.aload_n 0, 1) := by decide +kernel
theorem dX4_visits_29 : decode cX4_visits 29 = .ok (.invokevirtual 88, 3) := by decide +kernel
theorem dX4_visits_32 : decode cX4_visits 32 = .ok (.istore 7, 2) := by decide +kernel
theorem dX4_visits_34 : decode cX4_visits 34 = .ok (.iload 5, 2) := by decide +kernel
theorem dX4_visits_36 : decode cX4_visits 36 = .ok (.iconst 1, 1) := by decide +kernel
theorem dX4_visits_37 : decode cX4_visits 37 = .ok (.if_icmp .ne 6, 3) := by decide +kernel
theorem dX4_visits_40 : decode cX4_visits 40 = .ok (.iload 7, 2) := by decide +kernel
theorem dX4_visits_42 : decode cX4_visits 42 = .ok (.ireturn, 1) := by decide +kernel
theorem dX4_visits_43 : decode cX4_visits 43 = .ok (.iload 7, 2) := by decide +kernel
theorem dX4_visits_45 : decode cX4_visits 45 = .ok (.bipush (-9), 2) := by decide +kernel
theorem dX4_visits_47 : decode cX4_visits 47 = .ok (.if_icmp .eq 9, 3) := by decide +kernel
theorem dX4_visits_50 : decode cX4_visits 50 = .ok (.bipush (-100), 2) := by decide +kernel
theorem dX4_visits_52 : decode cX4_visits 52 = .ok (.iload 7, 2) := by decide +kernel
theorem dX4_visits_54 : decode cX4_visits 54 = .ok (.isub, 1) := by decide +kernel
theorem dX4_visits_55 : decode cX4_visits 55 = .ok (.ireturn, 1) := by decide +kernel
theorem dX4_visits_56 : decode cX4_visits 56 = .ok (.iload 5, 2) := by decide +kernel
theorem dX4_visits_58 : decode cX4_visits 58 = .ok (.bipush 10, 2) := by decide +kernel
theorem dX4_visits_60 : decode cX4_visits 60 = .ok (.if_icmp .ge 12, 3) := by decide +kernel
theorem dX4_visits_63 : decode cX4_visits 63 = .ok (.aload_n 0, 1) := by decide +kernel
theorem dX4_visits_64 : decode cX4_visits 64 = .ok (.iload 5, 2) := by decide +kernel
theorem dX4_visits_66 : decode cX4_visits 66 = .ok (.invokevirtual 92, 3) := by decide +kernel
theorem dX4_visits_69 : decode cX4_visits 69 = .ok (.goto 17, 3) := by decide +kernel
theorem dX4_visits_72 : decode cX4_visits 72 = .ok (.aload_n 0, 1) := by decide +kernel
theorem dX4_visits_73 : decode cX4_visits 73 = .ok (.iload 5, 2) := by decide +kernel
theorem dX4_visits_75 : decode cX4_visits 75 = .ok (.bipush 10, 2) := by decide +kernel
theorem dX4_visits_77 : decode cX4_visits 77 = .ok (.idiv, 1) := by decide +kernel
theorem dX4_visits_78 : decode cX4_visits 78 = .ok (.iload 5, 2) := by decide +kernel
theorem dX4_visits_80 : decode cX4_visits 80 = .ok (.bipush 10, 2) := by decide +kernel
theorem dX4_visits_82 : decode cX4_visits 82 = .ok (.irem, 1) := by decide +kernel
theorem dX4_visits_83 : decode cX4_visits 83 = .ok (.invokevirtual 95, 3) := by decide +kernel
theorem dX4_visits_86 : decode cX4_visits 86 = .ok (.ireturn, 1) := by decide +kernel
set_option maxRecDepth 20000 in
theorem S_X4_visits_0 {g : GG} {d : Nat} {F : Int32 → St → Prop} (a1 : Int32) (a2 : Int32) (a3 : Int32) (a4 : Int32) (a5 : Int32) (σ : St) (h : (ME g d M_X4_isQuestion [vI a5] σ (qI (fun r1 σ2 => (ME g d M_X4_troubleOfVisits [vR 0, vI a1, vI a2, vI a3, vI a4, vI r1] σ2 (qI (fun r4 σ5 => (ME g d M_X4_noted [vR 0, vI r4] σ5 (qI (fun r7 σ8 => ((r7 = 0 → (ME g d M_X4_firstWrong [vR 0] σ8 (qI (fun r11 σ12 => ((¬ a5 = 1 → ((r11 = (-9) → ((10 ≤ a5 → (ME g d M_X4_answerOfHead [vR 0, vI (a5 / 10), vI (a5 - a5 / 10 * 10)] σ12 (qI (fun r17 σ18 => F r17 σ18)))) ∧ (¬ 10 ≤ a5 → (ME g d M_X4_answerOfHall [vR 0, vI a5] σ12 (qI (fun r20 σ21 => F r20 σ21)))))) ∧ (¬ r11 = (-9) → F ((-100) - r11) σ12))) ∧ (a5 = 1 → F r11 σ12)))))) ∧ (¬ r7 = 0 → F r7 σ8)))))))))))) : VM g (d + 1) M_X4_visits (qI F) 0 [(0, vR 0), (1, vI a1), (2, vI a2), (3, vI a3), (4, vI a4), (5, vI a5)] [] σ := by
  refine VE_aload_n 0 dX4_visits_0 (k := ?_)
  refine VE_aload_n 0 dX4_visits_1 (k := ?_)
  refine VE_iload_n 1 dX4_visits_2 (k := ?_)
  refine VE_iload_n 2 dX4_visits_3 (k := ?_)
  refine VE_iload_n 3 dX4_visits_4 (k := ?_)
  refine VE_iload 4 dX4_visits_5 (k := ?_)
  refine VE_iload 5 dX4_visits_7 (k := ?_)
  refine VE_cSi [vI a5] dX4_visits_9 ml_X4_81 h (fun r1 σ2 h3 => ?_) (rok_D d)
  refine VE_cVi [vI a1, vI a2, vI a3, vI a4, vI r1] dX4_visits_12 ml_X4_84 h3 (fun r4 σ5 h6 => ?_) (rok_D d)
  refine VE_cVi [vI r4] dX4_visits_15 ml_X4_47 h6 (fun r7 σ8 h9 => ?_) (rok_D d)
  refine VE_istore (ls' := [(6, vI r7), (0, vR 0), (1, vI a1), (2, vI a2), (3, vI a3), (4, vI a4), (5, vI a5)]) dX4_visits_18 ?_
  refine VE_iload 0 dX4_visits_20 (k := ?_)
  refine VE_if_eq 28 dX4_visits_22 (fun c10 => ?_) (fun c10 => ?_)
  · refine VE_aload_n 1 dX4_visits_28 (k := ?_)
    refine VE_cVi [] dX4_visits_29 ml_X4_88 (h9.1 c10) (fun r11 σ12 h13 => ?_) (rok_D d)
    refine VE_istore (ls' := [(7, vI r11), (6, vI r7), (0, vR 0), (1, vI a1), (2, vI a2), (3, vI a3), (4, vI a4), (5, vI a5)]) dX4_visits_32 ?_
    refine VE_iload 7 dX4_visits_34 (k := ?_)
    refine VE_iconst 1 dX4_visits_36 (k := ?_)
    refine VE_icmp_ne 43 dX4_visits_37 (fun c14 => ?_) (fun c14 => ?_)
    · refine VE_iload 0 dX4_visits_43 (k := ?_)
      refine VE_bipush (-9) dX4_visits_45 (k := ?_)
      refine VE_icmp_eq 56 dX4_visits_47 (fun c15 => ?_) (fun c15 => ?_)
      · refine VE_iload 7 dX4_visits_56 (k := ?_)
        refine VE_bipush 10 dX4_visits_58 (k := ?_)
        refine VE_icmp_ge 72 dX4_visits_60 (fun c16 => ?_) (fun c16 => ?_)
        · refine VE_aload_n 2 dX4_visits_72 (k := ?_)
          refine VE_iload 7 dX4_visits_73 (k := ?_)
          refine VE_bipush 10 dX4_visits_75 (k := ?_)
          refine VE_idiv dX4_visits_77 (by decide) ?_
          refine VE_iload 7 dX4_visits_78 (k := ?_)
          refine VE_bipush 10 dX4_visits_80 (k := ?_)
          refine VE_irem dX4_visits_82 (by decide) ?_
          refine VE_cVi [vI (a5 / 10), vI (a5 - a5 / 10 * 10)] dX4_visits_83 ml_X4_95 (((h13.1 c14).1 c15).1 c16) (fun r17 σ18 h19 => ?_) (rok_D d)
          exact VM_iret dX4_visits_86 h19
        · refine VE_aload_n 2 dX4_visits_63 (k := ?_)
          refine VE_iload 7 dX4_visits_64 (k := ?_)
          refine VE_cVi [vI a5] dX4_visits_66 ml_X4_92 (((h13.1 c14).1 c15).2 c16) (fun r20 σ21 h22 => ?_) (rok_D d)
          refine VE_goto 86 dX4_visits_69 ?_
          exact VM_iret dX4_visits_86 h22
      · refine VE_bipush (-100) dX4_visits_50 (k := ?_)
        refine VE_iload 0 dX4_visits_52 (k := ?_)
        refine VE_isub dX4_visits_54 ?_
        exact VM_iret dX4_visits_55 ((h13.1 c14).2 c15)
    · refine VE_iload 0 dX4_visits_40 (k := ?_)
      exact VM_iret dX4_visits_42 (h13.2 c14)
  · refine VE_iload 0 dX4_visits_25 (k := ?_)
    exact VM_iret dX4_visits_27 (h9.2 c10)
theorem dX4_plan_0 : decode cX4_plan 0 = .ok (.aload_n 0, 1) := by decide +kernel
theorem dX4_plan_1 : decode cX4_plan 1 = .ok (.getfield 21, 3) := by decide +kernel
theorem dX4_plan_4 : decode cX4_plan 4 = .ok (.iload_n 1, 1) := by decide +kernel
theorem dX4_plan_5 : decode cX4_plan 5 = .ok (.invokevirtual 64, 3) := by decide +kernel
theorem dX4_plan_8 : decode cX4_plan 8 = .ok (.ifCond .eq 14, 3) := by decide +kernel
theorem dX4_plan_11 : decode cX4_plan 11 = .ok (.aload_n 0, 1) := by decide +kernel
theorem dX4_plan_12 : decode cX4_plan 12 = .ok (.getfield 21, 3) := by decide +kernel
theorem dX4_plan_15 : decode cX4_plan 15 = .ok (.iload_n 2, 1) := by decide +kernel
theorem dX4_plan_16 : decode cX4_plan 16 = .ok (.invokevirtual 64, 3) := by decide +kernel
theorem dX4_plan_19 : decode cX4_plan 19 = .ok (.ifCond .ne 5, 3) := by decide +kernel
theorem dX4_plan_22 : decode cX4_plan 22 = .ok (.iconst (-1), 1) := by decide +kernel
theorem dX4_plan_23 : decode cX4_plan 23 = .ok (.ireturn, 1) := by decide +kernel
theorem dX4_plan_24 : decode cX4_plan 24 = .ok (.iload_n 3, 1) := by decide +kernel
theorem dX4_plan_25 : decode cX4_plan 25 = .ok (.iconst (-1), 1) := by decide +kernel
theorem dX4_plan_26 : decode cX4_plan 26 = .ok (.if_icmp .lt 9, 3) := by decide +kernel
theorem dX4_plan_29 : decode cX4_plan 29 = .ok (.iload_n 3, 1) := by decide +kernel
theorem dX4_plan_30 : decode cX4_plan 30 = .ok (.bipush 6, 2) := by decide +kernel
theorem dX4_plan_32 : decode cX4_plan 32 = .ok (.if_icmp .lt 6, 3) := by decide +kernel
theorem dX4_plan_35 : decode cX4_plan 35 = .ok (.bipush (-2), 2) := by decide +kernel
theorem dX4_plan_37 : decode cX4_plan 37 = .ok (.ireturn, 1) := by decide +kernel
theorem dX4_plan_38 : decode cX4_plan 38 = .ok (.iload_n 3, 1) := by decide +kernel
theorem dX4_plan_39 : decode cX4_plan 39 = .ok (.iconst (-1), 1) := by decide +kernel
theorem dX4_plan_40 : decode cX4_plan 40 = .ok (.if_icmp .ne 14, 3) := by decide +kernel
theorem dX4_plan_43 : decode cX4_plan 43 = .ok (.iload_n 1, 1) := by decide +kernel
theorem dX4_plan_44 : decode cX4_plan 44 = .ok (.iload_n 2, 1) := by decide +kernel
theorem dX4_plan_45 : decode cX4_plan 45 = .ok (.if_icmp .ne 7, 3) := by decide +kernel
theorem dX4_plan_48 : decode cX4_plan 48 = .ok (.iconst 0, 1) := by decide +kernel
theorem dX4_plan_49 : decode cX4_plan 49 = .ok (.goto 4, 3) := by decide +kernel
theorem dX4_plan_52 : decode cX4_plan 52 = .ok (.iconst 2, 1) := by decide +kernel
theorem dX4_plan_53 : decode cX4_plan 53 = .ok (.ireturn, 1) := by decide +kernel
theorem dX4_plan_54 : decode cX4_plan 54 = .ok (.iload_n 1, 1) := by decide +kernel
theorem dX4_plan_55 : decode cX4_plan 55 = .ok (.iload_n 2, 1) := by decide +kernel
theorem dX4_plan_56 : decode cX4_plan 56 = .ok (.if_icmp .eq 8, 3) := by decide +kernel
theorem dX4_plan_59 : decode cX4_plan 59 = .ok (.iload_n 3, 1) := by decide +kernel
theorem dX4_plan_60 : decode cX4_plan 60 = .ok (.iconst 1, 1) := by decide +kernel
theorem dX4_plan_61 : decode cX4_plan 61 = .ok (.if_icmp .le 6, 3) := by decide +kernel
theorem dX4_plan_64 : decode cX4_plan 64 = .ok (.bipush (-9), 2) := by decide +kernel
theorem dX4_plan_66 : decode cX4_plan 66 = .ok (.ireturn, 1) := by decide +kernel
theorem dX4_plan_67 : decode cX4_plan 67 = .ok (.iload_n 3, 1) := by decide +kernel
theorem dX4_plan_68 : decode cX4_plan 68 = .ok (.ifCond .ne 7, 3) := by decide +kernel
theorem dX4_plan_71 : decode cX4_plan 71 = .ok (.iload_n 2, 1) := by decide +kernel
theorem dX4_plan_72 : decode cX4_plan 72 = .ok (.goto 4, 3) := by decide +kernel
theorem dX4_plan_75 : decode cX4_plan 75 = .ok (.iload_n 1, 1) := by decide +kernel
theorem dX4_plan_76 : decode cX4_plan 76 = .ok (.ireturn, 1) := by decide +kernel
set_option maxRecDepth 20000 in
theorem S_X4_plan_0 {g : GG} {d : Nat} {F : Int32 → St → Prop} (a1 : Int32) (a2 : Int32) (a3 : Int32) (σ : St) (h : (ME g d M_X0_has [vR 10, vI a1] σ (qI (fun r1 σ2 => ((r1 = 0 → F (-1) σ2) ∧ (¬ r1 = 0 → (ME g d M_X0_has [vR 10, vI a2] σ2 (qI (fun r5 σ6 => ((¬ r5 = 0 → ((a3 < (-1) → F (-2) σ6) ∧ (¬ a3 < (-1) → ((a3 < 6 → ((¬ a3 = (-1) → ((a1 = a2 → F (-9) σ6) ∧ (¬ a1 = a2 → ((a3 ≤ 1 → ((¬ a3 = 0 → F a1 σ6) ∧ (a3 = 0 → F a2 σ6))) ∧ (¬ a3 ≤ 1 → F (-9) σ6))))) ∧ (a3 = (-1) → ((¬ a1 = a2 → F 2 σ6) ∧ (a1 = a2 → F 0 σ6))))) ∧ (¬ a3 < 6 → F (-2) σ6))))) ∧ (r5 = 0 → F (-1) σ6))))))))))) : VM g (d + 1) M_X4_plan (qI F) 0 [(0, vR 0), (1, vI a1), (2, vI a2), (3, vI a3)] [] σ := by
  refine VE_aload_n 0 dX4_plan_0 (k := ?_)
  refine VE_getR 10 dX4_plan_1 fl_X4_21 ?_
  refine VE_iload_n 1 dX4_plan_4 (k := ?_)
  refine VE_cVi [vI a1] dX4_plan_5 ml_X4_64 h (fun r1 σ2 h3 => ?_) (rok_D d)
  refine VE_if_eq 22 dX4_plan_8 (fun c4 => ?_) (fun c4 => ?_)
  · refine VE_iconst (-1) dX4_plan_22 (k := ?_)
    exact VM_iret dX4_plan_23 (h3.1 c4)
  · refine VE_aload_n 0 dX4_plan_11 (k := ?_)
    refine VE_getR 10 dX4_plan_12 fl_X4_21 ?_
    refine VE_iload_n 2 dX4_plan_15 (k := ?_)
    refine VE_cVi [vI a2] dX4_plan_16 ml_X4_64 (h3.2 c4) (fun r5 σ6 h7 => ?_) (rok_D d)
    refine VE_if_ne 24 dX4_plan_19 (fun c8 => ?_) (fun c8 => ?_)
    · refine VE_iload_n 3 dX4_plan_24 (k := ?_)
      refine VE_iconst (-1) dX4_plan_25 (k := ?_)
      refine VE_icmp_lt 35 dX4_plan_26 (fun c9 => ?_) (fun c9 => ?_)
      · refine VE_bipush (-2) dX4_plan_35 (k := ?_)
        exact VM_iret dX4_plan_37 ((h7.1 c8).1 c9)
      · refine VE_iload_n 3 dX4_plan_29 (k := ?_)
        refine VE_bipush 6 dX4_plan_30 (k := ?_)
        refine VE_icmp_lt 38 dX4_plan_32 (fun c10 => ?_) (fun c10 => ?_)
        · refine VE_iload_n 3 dX4_plan_38 (k := ?_)
          refine VE_iconst (-1) dX4_plan_39 (k := ?_)
          refine VE_icmp_ne 54 dX4_plan_40 (fun c11 => ?_) (fun c11 => ?_)
          · refine VE_iload_n 1 dX4_plan_54 (k := ?_)
            refine VE_iload_n 2 dX4_plan_55 (k := ?_)
            refine VE_icmp_eq 64 dX4_plan_56 (fun c12 => ?_) (fun c12 => ?_)
            · refine VE_bipush (-9) dX4_plan_64 (k := ?_)
              exact VM_iret dX4_plan_66 (((((h7.1 c8).2 c9).1 c10).1 c11).1 c12)
            · refine VE_iload_n 3 dX4_plan_59 (k := ?_)
              refine VE_iconst 1 dX4_plan_60 (k := ?_)
              refine VE_icmp_le 67 dX4_plan_61 (fun c13 => ?_) (fun c13 => ?_)
              · refine VE_iload_n 3 dX4_plan_67 (k := ?_)
                refine VE_if_ne 75 dX4_plan_68 (fun c14 => ?_) (fun c14 => ?_)
                · refine VE_iload_n 1 dX4_plan_75 (k := ?_)
                  exact VM_iret dX4_plan_76 (((((((h7.1 c8).2 c9).1 c10).1 c11).2 c12).1 c13).1 c14)
                · refine VE_iload_n 2 dX4_plan_71 (k := ?_)
                  refine VE_goto 76 dX4_plan_72 ?_
                  exact VM_iret dX4_plan_76 (((((((h7.1 c8).2 c9).1 c10).1 c11).2 c12).1 c13).2 c14)
              · refine VE_bipush (-9) dX4_plan_64 (k := ?_)
                exact VM_iret dX4_plan_66 ((((((h7.1 c8).2 c9).1 c10).1 c11).2 c12).2 c13)
          · refine VE_iload_n 1 dX4_plan_43 (k := ?_)
            refine VE_iload_n 2 dX4_plan_44 (k := ?_)
            refine VE_icmp_ne 52 dX4_plan_45 (fun c15 => ?_) (fun c15 => ?_)
            · refine VE_iconst 2 dX4_plan_52 (k := ?_)
              exact VM_iret dX4_plan_53 (((((h7.1 c8).2 c9).1 c10).2 c11).1 c15)
            · refine VE_iconst 0 dX4_plan_48 (k := ?_)
              refine VE_goto 53 dX4_plan_49 ?_
              exact VM_iret dX4_plan_53 (((((h7.1 c8).2 c9).1 c10).2 c11).2 c15)
        · refine VE_bipush (-2) dX4_plan_35 (k := ?_)
          exact VM_iret dX4_plan_37 (((h7.1 c8).2 c9).2 c10)
    · refine VE_iconst (-1) dX4_plan_22 (k := ?_)
      exact VM_iret dX4_plan_23 (h7.2 c8)
theorem dX4_reading_0 : decode cX4_reading 0 = .ok (.aload_n 0, 1) := by decide +kernel
theorem dX4_reading_1 : decode cX4_reading 1 = .ok (.getfield 21, 3) := by decide +kernel
theorem dX4_reading_4 : decode cX4_reading 4 = .ok (.iload_n 2, 1) := by decide +kernel
theorem dX4_reading_5 : decode cX4_reading 5 = .ok (.invokevirtual 64, 3) := by decide +kernel
theorem dX4_reading_8 : decode cX4_reading 8 = .ok (.ifCond .eq 20, 3) := by decide +kernel
theorem dX4_reading_11 : decode cX4_reading 11 = .ok (.iload_n 3, 1) := by decide +kernel
theorem dX4_reading_12 : decode cX4_reading 12 = .ok (.bipush (-9), 2) := by decide +kernel
theorem dX4_reading_14 : decode cX4_reading 14 = .ok (.if_icmp .eq 16, 3) := by decide +kernel
theorem dX4_reading_17 : decode cX4_reading 17 = .ok (.aload_n 0, 1) := by decide +kernel
theorem dX4_reading_18 : decode cX4_reading 18 = .ok (.getfield 21, 3) := by decide +kernel
theorem dX4_reading_21 : decode cX4_reading 21 = .ok (.iload_n 3, 1) := by decide +kernel
theorem dX4_reading_22 : decode cX4_reading 22 = .ok (.invokevirtual 64, 3) := by decide +kernel
theorem dX4_reading_25 : decode cX4_reading 25 = .ok (.ifCond .ne 5, 3) := by decide +kernel
theorem dX4_reading_28 : decode cX4_reading 28 = .ok (.iconst (-1), 1) := by decide +kernel
theorem dX4_reading_29 : decode cX4_reading 29 = .ok (.ireturn, 1) := by decide +kernel
theorem dX4_reading_30 : decode cX4_reading 30 = .ok (.iload_n 1, 1) := by decide +kernel
theorem dX4_reading_31 : decode cX4_reading 31 = .ok (.ifCond .lt 9, 3) := by decide +kernel
theorem dX4_reading_34 : decode cX4_reading 34 = .ok (.iload_n 1, 1) := by decide +kernel
theorem dX4_reading_35 : decode cX4_reading 35 = .ok (.bipush 20, 2) := by decide +kernel
theorem dX4_reading_37 : decode cX4_reading 37 = .ok (.if_icmp .le 6, 3) := by decide +kernel
theorem dX4_reading_40 : decode cX4_reading 40 = .ok (.bipush (-2), 2) := by decide +kernel
theorem dX4_reading_42 : decode cX4_reading 42 = .ok (.ireturn, 1) := by decide +kernel
theorem dX4_reading_43 : decode cX4_reading 43 = .ok (.aload_n 0, 1) := by decide +kernel
theorem dX4_reading_44 : decode cX4_reading 44 = .ok (.getfield 35, 3) := by decide +kernel
theorem dX4_reading_47 : decode cX4_reading 47 = .ok (.getfield 59, 3) := by decide +kernel
theorem dX4_reading_50 : decode cX4_reading 50 = .ok (.bipush 8, 2) := by decide +kernel
theorem dX4_reading_52 : decode cX4_reading 52 = .ok (.if_icmp .lt 6, 3) := by decide +kernel
theorem dX4_reading_55 : decode cX4_reading 55 = .ok (.bipush (-4), 2) := by decide +kernel
theorem dX4_reading_57 : decode cX4_reading 57 = .ok (.ireturn, 1) := by decide +kernel
theorem dX4_reading_58 : decode cX4_reading 58 = .ok (.aload_n 0, 1) := by decide +kernel
theorem dX4_reading_59 : decode cX4_reading 59 = .ok (.getfield 35, 3) := by decide +kernel
theorem dX4_reading_62 : decode cX4_reading 62 = .ok (.iload_n 1, 1) := by decide +kernel
theorem dX4_reading_63 : decode cX4_reading 63 = .ok (.iload_n 2, 1) := by decide +kernel
theorem dX4_reading_64 : decode cX4_reading 64 = .ok (.iload_n 3, 1) := by decide +kernel
theorem dX4_reading_65 : decode cX4_reading 65 = .ok (.invokevirtual 98, 3) := by decide +kernel
theorem dX4_reading_68 : decode cX4_reading 68 = .ok (.ireturn, 1) := by decide +kernel
set_option maxRecDepth 20000 in
theorem S_X4_reading_0 {g : GG} {d : Nat} {F : Int32 → St → Prop} (a1 : Int32) (a2 : Int32) (a3 : Int32) (σ : St) (h : (ME g d M_X0_has [vR 10, vI a2] σ (qI (fun r1 σ2 => ((r1 = 0 → F (-1) σ2) ∧ (¬ r1 = 0 → ((a3 = (-9) → ((a1 < 0 → F (-2) σ2) ∧ (¬ a1 < 0 → ((a1 ≤ 20 → (((σ2 18 3) < 8 → (ME g d M_X2_add [vR 18, vI a1, vI a2, vI a3] σ2 (qI (fun r9 σ10 => F r9 σ10)))) ∧ (¬ (σ2 18 3) < 8 → F (-4) σ2))) ∧ (¬ a1 ≤ 20 → F (-2) σ2))))) ∧ (¬ a3 = (-9) → (ME g d M_X0_has [vR 10, vI a3] σ2 (qI (fun r12 σ13 => ((¬ r12 = 0 → ((a1 < 0 → F (-2) σ13) ∧ (¬ a1 < 0 → ((a1 ≤ 20 → (((σ13 18 3) < 8 → (ME g d M_X2_add [vR 18, vI a1, vI a2, vI a3] σ13 (qI (fun r19 σ20 => F r19 σ20)))) ∧ (¬ (σ13 18 3) < 8 → F (-4) σ13))) ∧ (¬ a1 ≤ 20 → F (-2) σ13))))) ∧ (r12 = 0 → F (-1) σ13))))))))))))) : VM g (d + 1) M_X4_reading (qI F) 0 [(0, vR 0), (1, vI a1), (2, vI a2), (3, vI a3)] [] σ := by
  refine VE_aload_n 0 dX4_reading_0 (k := ?_)
  refine VE_getR 10 dX4_reading_1 fl_X4_21 ?_
  refine VE_iload_n 2 dX4_reading_4 (k := ?_)
  refine VE_cVi [vI a2] dX4_reading_5 ml_X4_64 h (fun r1 σ2 h3 => ?_) (rok_D d)
  refine VE_if_eq 28 dX4_reading_8 (fun c4 => ?_) (fun c4 => ?_)
  · refine VE_iconst (-1) dX4_reading_28 (k := ?_)
    exact VM_iret dX4_reading_29 (h3.1 c4)
  · refine VE_iload_n 3 dX4_reading_11 (k := ?_)
    refine VE_bipush (-9) dX4_reading_12 (k := ?_)
    refine VE_icmp_eq 30 dX4_reading_14 (fun c5 => ?_) (fun c5 => ?_)
    · refine VE_iload_n 1 dX4_reading_30 (k := ?_)
      refine VE_if_lt 40 dX4_reading_31 (fun c6 => ?_) (fun c6 => ?_)
      · refine VE_bipush (-2) dX4_reading_40 (k := ?_)
        exact VM_iret dX4_reading_42 (((h3.2 c4).1 c5).1 c6)
      · refine VE_iload_n 1 dX4_reading_34 (k := ?_)
        refine VE_bipush 20 dX4_reading_35 (k := ?_)
        refine VE_icmp_le 43 dX4_reading_37 (fun c7 => ?_) (fun c7 => ?_)
        · refine VE_aload_n 0 dX4_reading_43 (k := ?_)
          refine VE_getR 18 dX4_reading_44 fl_X4_35 ?_
          refine VE_getI dX4_reading_47 fl_X4_59 ?_
          refine VE_bipush 8 dX4_reading_50 (k := ?_)
          refine VE_icmp_lt 58 dX4_reading_52 (fun c8 => ?_) (fun c8 => ?_)
          · refine VE_aload_n 0 dX4_reading_58 (k := ?_)
            refine VE_getR 18 dX4_reading_59 fl_X4_35 ?_
            refine VE_iload_n 1 dX4_reading_62 (k := ?_)
            refine VE_iload_n 2 dX4_reading_63 (k := ?_)
            refine VE_iload_n 3 dX4_reading_64 (k := ?_)
            refine VE_cVi [vI a1, vI a2, vI a3] dX4_reading_65 ml_X4_98 (((((h3.2 c4).1 c5).2 c6).1 c7).1 c8) (fun r9 σ10 h11 => ?_) (rok_D d)
            exact VM_iret dX4_reading_68 h11
          · refine VE_bipush (-4) dX4_reading_55 (k := ?_)
            exact VM_iret dX4_reading_57 (((((h3.2 c4).1 c5).2 c6).1 c7).2 c8)
        · refine VE_bipush (-2) dX4_reading_40 (k := ?_)
          exact VM_iret dX4_reading_42 ((((h3.2 c4).1 c5).2 c6).2 c7)
    · refine VE_aload_n 0 dX4_reading_17 (k := ?_)
      refine VE_getR 10 dX4_reading_18 fl_X4_21 ?_
      refine VE_iload_n 3 dX4_reading_21 (k := ?_)
      refine VE_cVi [vI a3] dX4_reading_22 ml_X4_64 ((h3.2 c4).2 c5) (fun r12 σ13 h14 => ?_) (rok_D d)
      refine VE_if_ne 30 dX4_reading_25 (fun c15 => ?_) (fun c15 => ?_)
      · refine VE_iload_n 1 dX4_reading_30 (k := ?_)
        refine VE_if_lt 40 dX4_reading_31 (fun c16 => ?_) (fun c16 => ?_)
        · refine VE_bipush (-2) dX4_reading_40 (k := ?_)
          exact VM_iret dX4_reading_42 ((h14.1 c15).1 c16)
        · refine VE_iload_n 1 dX4_reading_34 (k := ?_)
          refine VE_bipush 20 dX4_reading_35 (k := ?_)
          refine VE_icmp_le 43 dX4_reading_37 (fun c17 => ?_) (fun c17 => ?_)
          · refine VE_aload_n 0 dX4_reading_43 (k := ?_)
            refine VE_getR 18 dX4_reading_44 fl_X4_35 ?_
            refine VE_getI dX4_reading_47 fl_X4_59 ?_
            refine VE_bipush 8 dX4_reading_50 (k := ?_)
            refine VE_icmp_lt 58 dX4_reading_52 (fun c18 => ?_) (fun c18 => ?_)
            · refine VE_aload_n 0 dX4_reading_58 (k := ?_)
              refine VE_getR 18 dX4_reading_59 fl_X4_35 ?_
              refine VE_iload_n 1 dX4_reading_62 (k := ?_)
              refine VE_iload_n 2 dX4_reading_63 (k := ?_)
              refine VE_iload_n 3 dX4_reading_64 (k := ?_)
              refine VE_cVi [vI a1, vI a2, vI a3] dX4_reading_65 ml_X4_98 ((((h14.1 c15).2 c16).1 c17).1 c18) (fun r19 σ20 h21 => ?_) (rok_D d)
              exact VM_iret dX4_reading_68 h21
            · refine VE_bipush (-4) dX4_reading_55 (k := ?_)
              exact VM_iret dX4_reading_57 ((((h14.1 c15).2 c16).1 c17).2 c18)
          · refine VE_bipush (-2) dX4_reading_40 (k := ?_)
            exact VM_iret dX4_reading_42 (((h14.1 c15).2 c16).2 c17)
      · refine VE_iconst (-1) dX4_reading_28 (k := ?_)
        exact VM_iret dX4_reading_29 (h14.2 c15)
theorem dX4_back_0 : decode cX4_back 0 = .ok (.iload_n 1, 1) := by decide +kernel
theorem dX4_back_1 : decode cX4_back 1 = .ok (.ifCond .lt 14, 3) := by decide +kernel
theorem dX4_back_4 : decode cX4_back 4 = .ok (.iload_n 1, 1) := by decide +kernel
theorem dX4_back_5 : decode cX4_back 5 = .ok (.aload_n 0, 1) := by decide +kernel
theorem dX4_back_6 : decode cX4_back 6 = .ok (.getfield 35, 3) := by decide +kernel
theorem dX4_back_9 : decode cX4_back 9 = .ok (.getfield 59, 3) := by decide +kernel
theorem dX4_back_12 : decode cX4_back 12 = .ok (.if_icmp .le 6, 3) := by decide +kernel
theorem dX4_back_15 : decode cX4_back 15 = .ok (.bipush (-2), 2) := by decide +kernel
theorem dX4_back_17 : decode cX4_back 17 = .ok (.ireturn, 1) := by decide +kernel
theorem dX4_back_18 : decode cX4_back 18 = .ok (.aload_n 0, 1) := by decide +kernel
theorem dX4_back_19 : decode cX4_back 19 = .ok (.getfield 35, 3) := by decide +kernel
theorem dX4_back_22 : decode cX4_back 22 = .ok (.dup, 1) := by decide +kernel
theorem dX4_back_23 : decode cX4_back 23 = .ok (.getfield 59, 3) := by decide +kernel
theorem dX4_back_26 : decode cX4_back 26 = .ok (.iload_n 1, 1) := by decide +kernel
theorem dX4_back_27 : decode cX4_back 27 = .ok (.isub, 1) := by decide +kernel
theorem dX4_back_28 : decode cX4_back 28 = .ok (.putfield 59, 3) := by decide +kernel
theorem dX4_back_31 : decode cX4_back 31 = .ok (.aload_n 0, 1) := by decide +kernel
theorem dX4_back_32 : decode cX4_back 32 = .ok (.getfield 35, 3) := by decide +kernel
theorem dX4_back_35 : decode cX4_back 35 = .ok (.getfield 59, 3) := by decide +kernel
theorem dX4_back_38 : decode cX4_back 38 = .ok (.ireturn, 1) := by decide +kernel
set_option maxRecDepth 20000 in
theorem S_X4_back_0 {g : GG} {d : Nat} {F : Int32 → St → Prop} (a1 : Int32) (σ : St) (h : ((a1 < 0 → F (-2) σ) ∧ (¬ a1 < 0 → ((a1 ≤ (σ 18 3) → F ((σ 18 3) - a1) (sU σ 18 3 ((σ 18 3) - a1))) ∧ (¬ a1 ≤ (σ 18 3) → F (-2) σ))))) : VM g d M_X4_back (qI F) 0 [(0, vR 0), (1, vI a1)] [] σ := by
  refine VE_iload_n 1 dX4_back_0 (k := ?_)
  refine VE_if_lt 15 dX4_back_1 (fun c1 => ?_) (fun c1 => ?_)
  · refine VE_bipush (-2) dX4_back_15 (k := ?_)
    exact VM_iret dX4_back_17 (h.1 c1)
  · refine VE_iload_n 1 dX4_back_4 (k := ?_)
    refine VE_aload_n 0 dX4_back_5 (k := ?_)
    refine VE_getR 18 dX4_back_6 fl_X4_35 ?_
    refine VE_getI dX4_back_9 fl_X4_59 ?_
    refine VE_icmp_le 18 dX4_back_12 (fun c2 => ?_) (fun c2 => ?_)
    · refine VE_aload_n 0 dX4_back_18 (k := ?_)
      refine VE_getR 18 dX4_back_19 fl_X4_35 ?_
      refine VE_dup dX4_back_22 (k := ?_)
      refine VE_getI dX4_back_23 fl_X4_59 ?_
      refine VE_iload_n 1 dX4_back_26 (k := ?_)
      refine VE_isub dX4_back_27 ?_
      refine VE_put dX4_back_28 fl_X4_59 ?_
      refine VE_aload_n 0 dX4_back_31 (k := ?_)
      refine VE_getR 18 dX4_back_32 fl_X4_35 ?_
      refine VE_getI dX4_back_35 fl_X4_59 ?_
      exact VM_iret dX4_back_38 ((h.2 c1).1 c2)
    · refine VE_bipush (-2) dX4_back_15 (k := ?_)
      exact VM_iret dX4_back_17 ((h.2 c1).2 c2)
theorem dX4_who_0 : decode cX4_who 0 = .ok (.aload_n 0, 1) := by decide +kernel
theorem dX4_who_1 : decode cX4_who 1 = .ok (.aload_n 0, 1) := by decide +kernel
theorem dX4_who_2 : decode cX4_who 2 = .ok (.iload_n 2, 1) := by decide +kernel
theorem dX4_who_3 : decode cX4_who 3 = .ok (.iload_n 3, 1) := by decide +kernel
theorem dX4_who_4 : decode cX4_who 4 = .ok (.iload 4, 2) := by decide +kernel
theorem dX4_who_6 : decode cX4_who 6 = .ok (.iload 5, 2) := by decide +kernel
theorem dX4_who_8 : decode cX4_who 8 = .ok (.iload_n 1, 1) := by decide +kernel
theorem dX4_who_9 : decode cX4_who 9 = .ok (.ifCond .lt 13, 3) := by decide +kernel
theorem dX4_who_12 : decode cX4_who 12 = .ok (.iload_n 1, 1) := by decide +kernel
theorem dX4_who_13 : decode cX4_who 13 = .ok (.iload 5, 2) := by decide +kernel
theorem dX4_who_15 : decode cX4_who 15 = .ok (.if_icmp .ge 7, 3) := by decide +kernel
theorem dX4_who_18 : decode cX4_who 18 = .ok (.iconst 1, 1) := by decide +kernel
theorem dX4_who_19 : decode cX4_who 19 = .ok (.goto 4, 3) := by decide +kernel
theorem dX4_who_22 : decode cX4_who 22 = .ok (.iconst 0, 1) := by decide +kernel
theorem dX4_who_23 : decode cX4_who 23 = .ok (.invokevirtual 84, 3) := by decide +kernel
theorem dX4_who_26 : decode cX4_who 26 = .ok (.invokevirtual 47, 3) := by decide +kernel
theorem dX4_who_29 : decode cX4_who 29 = .ok (.istore 6, 2) := by decide +kernel
theorem dX4_who_31 : decode cX4_who 31 = .ok (.iload 6, 2) := by decide +kernel
theorem dX4_who_33 : decode cX4_who 33 = .ok (.ifCond .eq 6, 3) := by decide +kernel
theorem dX4_who_36 : decode cX4_who 36 = .ok (.iload 6, 2) := by decide +kernel
theorem dX4_who_38 : decode cX4_who 38 = .ok (.ireturn, 1) := by decide +kernel
theorem dX4_who_39 : decode cX4_who 39 = .ok (.iconst 0, 1) := by decide +kernel
theorem dX4_who_40 : decode cX4_who 40 = .ok (.istore 7, 2) := by decide +kernel
theorem dX4_who_42 : decode cX4_who 42 = .ok (.iconst 0, 1) := by decide +kernel
theorem dX4_who_43 : decode cX4_who 43 = .ok (.istore 8, 2) := by decide +kernel
theorem dX4_who_45 : decode cX4_who 45 = .ok (.iload 8, 2) := by decide +kernel
theorem dX4_who_47 : decode cX4_who 47 = .ok (.aload_n 0, 1) := by decide +kernel
theorem dX4_who_48 : decode cX4_who 48 = .ok (.getfield 21, 3) := by decide +kernel
theorem dX4_who_51 : decode cX4_who 51 = .ok (.getfield 63, 3) := by decide +kernel
theorem dX4_who_54 : decode cX4_who 54 = .ok (.if_icmp .ge 39, 3) := by decide +kernel
theorem dX4_who_57 : decode cX4_who 57 = .ok (.aload_n 0, 1) := by decide +kernel
theorem dX4_who_58 : decode cX4_who 58 = .ok (.getfield 39, 3) := by decide +kernel
theorem dX4_who_61 : decode cX4_who 61 = .ok (.iload_n 1, 1) := by decide +kernel
theorem dX4_who_62 : decode cX4_who 62 = .ok (.iload 8, 2) := by decide +kernel
theorem dX4_who_64 : decode cX4_who 64 = .ok (.iastore, 1) := by decide +kernel
theorem dX4_who_65 : decode cX4_who 65 = .ok (.aload_n 0, 1) := by decide +kernel
theorem dX4_who_66 : decode cX4_who 66 = .ok (.getfield 28, 3) := by decide +kernel
theorem dX4_who_69 : decode cX4_who 69 = .ok (.aload_n 0, 1) := by decide +kernel
theorem dX4_who_70 : decode cX4_who 70 = .ok (.getfield 21, 3) := by decide +kernel
theorem dX4_who_73 : decode cX4_who 73 = .ok (.invokevirtual 102, 3) := by decide +kernel
theorem dX4_who_76 : decode cX4_who 76 = .ok (.iload 7, 2) := by decide +kernel
theorem dX4_who_78 : decode cX4_who 78 = .ok (.aload_n 0, 1) := by decide +kernel
theorem dX4_who_79 : decode cX4_who 79 = .ok (.iload 8, 2) := by decide +kernel
theorem dX4_who_81 : decode cX4_who 81 = .ok (.invokevirtual 106, 3) := by decide +kernel
theorem dX4_who_84 : decode cX4_who 84 = .ok (.ior, 1) := by decide +kernel
theorem dX4_who_85 : decode cX4_who 85 = .ok (.istore 7, 2) := by decide +kernel
theorem dX4_who_87 : decode cX4_who 87 = .ok (.iinc 8 1, 3) := by decide +kernel
theorem dX4_who_90 : decode cX4_who 90 = .ok (.goto (-45), 3) := by decide +kernel
theorem dX4_who_93 : decode cX4_who 93 = .ok (.iload 7, 2) := by decide +kernel
theorem dX4_who_95 : decode cX4_who 95 = .ok (.ireturn, 1) := by decide +kernel
set_option maxRecDepth 20000 in
theorem S_X4_who_0 {g : GG} {d : Nat} {F : Int32 → St → Prop} (a1 : Int32) (a2 : Int32) (a3 : Int32) (a4 : Int32) (a5 : Int32) (σ : St) (h : ((a1 < 0 → (ME g d M_X4_troubleOfVisits [vR 0, vI a2, vI a3, vI a4, vI a5, vI 0] σ (qI (fun r2 σ3 => (ME g d M_X4_noted [vR 0, vI r2] σ3 (qI (fun r5 σ6 => ((r5 = 0 → VM g (d + 1) M_X4_who (qI F) 45 [(0, vR 0), (1, vI a1), (2, vI a2), (3, vI a3), (4, vI a4), (5, vI a5), (6, vI r5), (7, vI 0), (8, vI 0)] [] σ6) ∧ (¬ r5 = 0 → F r5 σ6))))))))) ∧ (¬ a1 < 0 → ((a5 ≤ a1 → (ME g d M_X4_troubleOfVisits [vR 0, vI a2, vI a3, vI a4, vI a5, vI 0] σ (qI (fun r10 σ11 => (ME g d M_X4_noted [vR 0, vI r10] σ11 (qI (fun r13 σ14 => ((r13 = 0 → VM g (d + 1) M_X4_who (qI F) 45 [(0, vR 0), (1, vI a1), (2, vI a2), (3, vI a3), (4, vI a4), (5, vI a5), (6, vI r13), (7, vI 0), (8, vI 0)] [] σ14) ∧ (¬ r13 = 0 → F r13 σ14))))))))) ∧ (¬ a5 ≤ a1 → (ME g d M_X4_troubleOfVisits [vR 0, vI a2, vI a3, vI a4, vI a5, vI 1] σ (qI (fun r17 σ18 => (ME g d M_X4_noted [vR 0, vI r17] σ18 (qI (fun r20 σ21 => ((r20 = 0 → VM g (d + 1) M_X4_who (qI F) 45 [(0, vR 0), (1, vI a1), (2, vI a2), (3, vI a3), (4, vI a4), (5, vI a5), (6, vI r20), (7, vI 0), (8, vI 0)] [] σ21) ∧ (¬ r20 = 0 → F r20 σ21))))))))))))) : VM g (d + 1) M_X4_who (qI F) 0 [(0, vR 0), (1, vI a1), (2, vI a2), (3, vI a3), (4, vI a4), (5, vI a5)] [] σ := by
  refine VE_aload_n 0 dX4_who_0 (k := ?_)
  refine VE_aload_n 0 dX4_who_1 (k := ?_)
  refine VE_iload_n 2 dX4_who_2 (k := ?_)
  refine VE_iload_n 3 dX4_who_3 (k := ?_)
  refine VE_iload 4 dX4_who_4 (k := ?_)
  refine VE_iload 5 dX4_who_6 (k := ?_)
  refine VE_iload_n 1 dX4_who_8 (k := ?_)
  refine VE_if_lt 22 dX4_who_9 (fun c1 => ?_) (fun c1 => ?_)
  · refine VE_iconst 0 dX4_who_22 (k := ?_)
    refine VE_cVi [vI a2, vI a3, vI a4, vI a5, vI 0] dX4_who_23 ml_X4_84 (h.1 c1) (fun r2 σ3 h4 => ?_) (rok_D d)
    refine VE_cVi [vI r2] dX4_who_26 ml_X4_47 h4 (fun r5 σ6 h7 => ?_) (rok_D d)
    refine VE_istore (ls' := [(6, vI r5), (0, vR 0), (1, vI a1), (2, vI a2), (3, vI a3), (4, vI a4), (5, vI a5)]) dX4_who_29 ?_
    refine VE_iload 0 dX4_who_31 (k := ?_)
    refine VE_if_eq 39 dX4_who_33 (fun c8 => ?_) (fun c8 => ?_)
    · refine VE_iconst 0 dX4_who_39 (k := ?_)
      refine VE_istore (ls' := [(7, vI 0), (6, vI r5), (0, vR 0), (1, vI a1), (2, vI a2), (3, vI a3), (4, vI a4), (5, vI a5)]) dX4_who_40 ?_
      refine VE_iconst 0 dX4_who_42 (k := ?_)
      refine VE_istore (ls' := [(8, vI 0), (7, vI 0), (6, vI r5), (0, vR 0), (1, vI a1), (2, vI a2), (3, vI a3), (4, vI a4), (5, vI a5)]) dX4_who_43 ?_
      exact VE_sub [3, 4, 5, 6, 7, 8, 2, 1, 0] rfl (h7.1 c8)
    · refine VE_iload 0 dX4_who_36 (k := ?_)
      exact VM_iret dX4_who_38 (h7.2 c8)
  · refine VE_iload_n 1 dX4_who_12 (k := ?_)
    refine VE_iload 5 dX4_who_13 (k := ?_)
    refine VE_icmp_ge 22 dX4_who_15 (fun c9 => ?_) (fun c9 => ?_)
    · refine VE_iconst 0 dX4_who_22 (k := ?_)
      refine VE_cVi [vI a2, vI a3, vI a4, vI a5, vI 0] dX4_who_23 ml_X4_84 ((h.2 c1).1 c9) (fun r10 σ11 h12 => ?_) (rok_D d)
      refine VE_cVi [vI r10] dX4_who_26 ml_X4_47 h12 (fun r13 σ14 h15 => ?_) (rok_D d)
      refine VE_istore (ls' := [(6, vI r13), (0, vR 0), (1, vI a1), (2, vI a2), (3, vI a3), (4, vI a4), (5, vI a5)]) dX4_who_29 ?_
      refine VE_iload 0 dX4_who_31 (k := ?_)
      refine VE_if_eq 39 dX4_who_33 (fun c16 => ?_) (fun c16 => ?_)
      · refine VE_iconst 0 dX4_who_39 (k := ?_)
        refine VE_istore (ls' := [(7, vI 0), (6, vI r13), (0, vR 0), (1, vI a1), (2, vI a2), (3, vI a3), (4, vI a4), (5, vI a5)]) dX4_who_40 ?_
        refine VE_iconst 0 dX4_who_42 (k := ?_)
        refine VE_istore (ls' := [(8, vI 0), (7, vI 0), (6, vI r13), (0, vR 0), (1, vI a1), (2, vI a2), (3, vI a3), (4, vI a4), (5, vI a5)]) dX4_who_43 ?_
        exact VE_sub [3, 4, 5, 6, 7, 8, 2, 1, 0] rfl (h15.1 c16)
      · refine VE_iload 0 dX4_who_36 (k := ?_)
        exact VM_iret dX4_who_38 (h15.2 c16)
    · refine VE_iconst 1 dX4_who_18 (k := ?_)
      refine VE_goto 23 dX4_who_19 ?_
      refine VE_cVi [vI a2, vI a3, vI a4, vI a5, vI 1] dX4_who_23 ml_X4_84 ((h.2 c1).2 c9) (fun r17 σ18 h19 => ?_) (rok_D d)
      refine VE_cVi [vI r17] dX4_who_26 ml_X4_47 h19 (fun r20 σ21 h22 => ?_) (rok_D d)
      refine VE_istore (ls' := [(6, vI r20), (0, vR 0), (1, vI a1), (2, vI a2), (3, vI a3), (4, vI a4), (5, vI a5)]) dX4_who_29 ?_
      refine VE_iload 0 dX4_who_31 (k := ?_)
      refine VE_if_eq 39 dX4_who_33 (fun c23 => ?_) (fun c23 => ?_)
      · refine VE_iconst 0 dX4_who_39 (k := ?_)
        refine VE_istore (ls' := [(7, vI 0), (6, vI r20), (0, vR 0), (1, vI a1), (2, vI a2), (3, vI a3), (4, vI a4), (5, vI a5)]) dX4_who_40 ?_
        refine VE_iconst 0 dX4_who_42 (k := ?_)
        refine VE_istore (ls' := [(8, vI 0), (7, vI 0), (6, vI r20), (0, vR 0), (1, vI a1), (2, vI a2), (3, vI a3), (4, vI a4), (5, vI a5)]) dX4_who_43 ?_
        exact VE_sub [3, 4, 5, 6, 7, 8, 2, 1, 0] rfl (h22.1 c23)
      · refine VE_iload 0 dX4_who_36 (k := ?_)
        exact VM_iret dX4_who_38 (h22.2 c23)
set_option maxRecDepth 20000 in
theorem S_X4_who_45 {g : GG} {d : Nat} {F : Int32 → St → Prop} (x1 : Int32) (x2 : Int32) (x3 : Int32) (x4 : Int32) (x5 : Int32) (x6 : Int32) (x7 : Int32) (x8 : Int32) (σ : St) (h : (((σ 10 3) ≤ x8 → F x7 σ) ∧ (¬ (σ 10 3) ≤ x8 → (vp_in x1 20 ∧ (ME g d M_X1_open [vR 14, vR 10] (sU σ 22 x1.toNatClampNeg x8) (qV (fun σ3 => (ME g d M_X4_bitIfAllSo [vR 0, vI x8] σ3 (qI (fun r5 σ6 => VM g (d + 1) M_X4_who (qI F) 45 [(0, vR 0), (1, vI x1), (2, vI x2), (3, vI x3), (4, vI x4), (5, vI x5), (6, vI x6), (7, vI (x7 ||| r5)), (8, vI (x8 + 1))] [] σ6)))))))))) : VM g (d + 1) M_X4_who (qI F) 45 [(0, vR 0), (1, vI x1), (2, vI x2), (3, vI x3), (4, vI x4), (5, vI x5), (6, vI x6), (7, vI x7), (8, vI x8)] [] σ := by
  refine VE_iload 8 dX4_who_45 (k := ?_)
  refine VE_aload_n 0 dX4_who_47 (k := ?_)
  refine VE_getR 10 dX4_who_48 fl_X4_21 ?_
  refine VE_getI dX4_who_51 fl_X4_63 ?_
  refine VE_icmp_ge 93 dX4_who_54 (fun c1 => ?_) (fun c1 => ?_)
  · refine VE_iload 7 dX4_who_93 (k := ?_)
    exact VM_iret dX4_who_95 (h.1 c1)
  · refine VE_aload_n 0 dX4_who_57 (k := ?_)
    refine VE_getR 22 dX4_who_58 fl_X4_39 ?_
    refine VE_iload_n 1 dX4_who_61 (k := ?_)
    refine VE_iload 8 dX4_who_62 (k := ?_)
    refine VE_iast dX4_who_64 (h.2 c1).1 ?_
    refine VE_aload_n 0 dX4_who_65 (k := ?_)
    refine VE_getR 14 dX4_who_66 fl_X4_28 ?_
    refine VE_aload_n 0 dX4_who_69 (k := ?_)
    refine VE_getR 10 dX4_who_70 fl_X4_21 ?_
    refine VE_cVv [vR 10] dX4_who_73 ml_X4_102 (h.2 c1).2 (fun σ3 h4 => ?_) (rok_D d)
    refine VE_iload 7 dX4_who_76 (k := ?_)
    refine VE_aload_n 0 dX4_who_78 (k := ?_)
    refine VE_iload 8 dX4_who_79 (k := ?_)
    refine VE_cVi [vI x8] dX4_who_81 ml_X4_106 h4 (fun r5 σ6 h7 => ?_) (rok_D d)
    refine VE_ior dX4_who_84 ?_
    refine VE_istore (ls' := [(7, vI (x7 ||| r5)), (0, vR 0), (1, vI x1), (2, vI x2), (3, vI x3), (4, vI x4), (5, vI x5), (6, vI x6), (8, vI x8)]) dX4_who_85 ?_
    refine VE_iinc 8 (x8 + 1) (ls' := [(8, vI (x8 + 1)), (7, vI (x7 ||| r5)), (0, vR 0), (1, vI x1), (2, vI x2), (3, vI x3), (4, vI x4), (5, vI x5), (6, vI x6)]) dX4_who_87 ?_
    refine VE_goto 45 dX4_who_90 ?_
    exact VE_sub [2, 3, 4, 5, 6, 7, 8, 1, 0] rfl h7
theorem dX4_kinds_0 : decode cX4_kinds 0 = .ok (.aload_n 0, 1) := by decide +kernel
theorem dX4_kinds_1 : decode cX4_kinds 1 = .ok (.aload_n 0, 1) := by decide +kernel
theorem dX4_kinds_2 : decode cX4_kinds 2 = .ok (.iload_n 1, 1) := by decide +kernel
theorem dX4_kinds_3 : decode cX4_kinds 3 = .ok (.iload_n 2, 1) := by decide +kernel
theorem dX4_kinds_4 : decode cX4_kinds 4 = .ok (.iload_n 3, 1) := by decide +kernel
theorem dX4_kinds_5 : decode cX4_kinds 5 = .ok (.iload 4, 2) := by decide +kernel
theorem dX4_kinds_7 : decode cX4_kinds 7 = .ok (.iload 5, 2) := by decide +kernel
theorem dX4_kinds_9 : decode cX4_kinds 9 = .ok (.invokevirtual 109, 3) := by decide +kernel
theorem dX4_kinds_12 : decode cX4_kinds 12 = .ok (.invokevirtual 47, 3) := by decide +kernel
theorem dX4_kinds_15 : decode cX4_kinds 15 = .ok (.istore 6, 2) := by decide +kernel
theorem dX4_kinds_17 : decode cX4_kinds 17 = .ok (.iload 6, 2) := by decide +kernel
theorem dX4_kinds_19 : decode cX4_kinds 19 = .ok (.ifCond .eq 6, 3) := by decide +kernel
theorem dX4_kinds_22 : decode cX4_kinds 22 = .ok (.iload 6, 2) := by decide +kernel
theorem dX4_kinds_24 : decode cX4_kinds 24 = .ok (.ireturn, 1) := by decide +kernel
theorem dX4_kinds_25 : decode cX4_kinds 25 = .ok (.iconst 0, 1) := by decide +kernel
theorem dX4_kinds_26 : decode cX4_kinds 26 = .ok (.istore 7, 2) := by decide +kernel
theorem dX4_kinds_28 : decode cX4_kinds 28 = .ok (.iconst 0, 1) := by decide +kernel
theorem dX4_kinds_29 : decode cX4_kinds 29 = .ok (.istore 8, 2) := by decide +kernel
theorem dX4_kinds_31 : decode cX4_kinds 31 = .ok (.iload 8, 2) := by decide +kernel
theorem dX4_kinds_33 : decode cX4_kinds 33 = .ok (.iconst 3, 1) := by decide +kernel
theorem dX4_kinds_34 : decode cX4_kinds 34 = .ok (.if_icmp .ge 54, 3) := by decide +kernel
theorem dX4_kinds_37 : decode cX4_kinds 37 = .ok (.aload_n 0, 1) := by decide +kernel
theorem dX4_kinds_38 : decode cX4_kinds 38 = .ok (.getfield 28, 3) := by decide +kernel
theorem dX4_kinds_41 : decode cX4_kinds 41 = .ok (.aload_n 0, 1) := by decide +kernel
theorem dX4_kinds_42 : decode cX4_kinds 42 = .ok (.getfield 21, 3) := by decide +kernel
theorem dX4_kinds_45 : decode cX4_kinds 45 = .ok (.invokevirtual 102, 3) := by decide +kernel
theorem dX4_kinds_48 : decode cX4_kinds 48 = .ok (.aload_n 0, 1) := by decide +kernel
theorem dX4_kinds_49 : decode cX4_kinds 49 = .ok (.getfield 28, 3) := by decide +kernel
theorem dX4_kinds_52 : decode cX4_kinds 52 = .ok (.getfield 113, 3) := by decide +kernel
theorem dX4_kinds_55 : decode cX4_kinds 55 = .ok (.iload_n 1, 1) := by decide +kernel
theorem dX4_kinds_56 : decode cX4_kinds 56 = .ok (.iload 8, 2) := by decide +kernel
theorem dX4_kinds_58 : decode cX4_kinds 58 = .ok (.aload_n 0, 1) := by decide +kernel
theorem dX4_kinds_59 : decode cX4_kinds 59 = .ok (.getfield 21, 3) := by decide +kernel
theorem dX4_kinds_62 : decode cX4_kinds 62 = .ok (.getfield 71, 3) := by decide +kernel
theorem dX4_kinds_65 : decode cX4_kinds 65 = .ok (.iload_n 1, 1) := by decide +kernel
theorem dX4_kinds_66 : decode cX4_kinds 66 = .ok (.iaload, 1) := by decide +kernel
theorem dX4_kinds_67 : decode cX4_kinds 67 = .ok (.invokestatic 77, 3) := by decide +kernel
theorem dX4_kinds_70 : decode cX4_kinds 70 = .ok (.iastore, 1) := by decide +kernel
theorem dX4_kinds_71 : decode cX4_kinds 71 = .ok (.iload 7, 2) := by decide +kernel
theorem dX4_kinds_73 : decode cX4_kinds 73 = .ok (.aload_n 0, 1) := by decide +kernel
theorem dX4_kinds_74 : decode cX4_kinds 74 = .ok (.iload 8, 2) := by decide +kernel
theorem dX4_kinds_76 : decode cX4_kinds 76 = .ok (.invokevirtual 106, 3) := by decide +kernel
theorem dX4_kinds_79 : decode cX4_kinds 79 = .ok (.ior, 1) := by decide +kernel
theorem dX4_kinds_80 : decode cX4_kinds 80 = .ok (.istore 7, 2) := by decide +kernel
theorem dX4_kinds_82 : decode cX4_kinds 82 = .ok (.iinc 8 1, 3) := by decide +kernel
theorem dX4_kinds_85 : decode cX4_kinds 85 = .ok (.goto (-54), 3) := by decide +kernel
theorem dX4_kinds_88 : decode cX4_kinds 88 = .ok (.iload 7, 2) := by decide +kernel
theorem dX4_kinds_90 : decode cX4_kinds 90 = .ok (.ireturn, 1) := by decide +kernel
set_option maxRecDepth 20000 in
theorem S_X4_kinds_0 {g : GG} {d : Nat} {F : Int32 → St → Prop} (a1 : Int32) (a2 : Int32) (a3 : Int32) (a4 : Int32) (a5 : Int32) (σ : St) (h : (ME g d M_X4_troubleOfOne [vR 0, vI a1, vI a2, vI a3, vI a4, vI a5] σ (qI (fun r1 σ2 => (ME g d M_X4_noted [vR 0, vI r1] σ2 (qI (fun r4 σ5 => ((r4 = 0 → VM g (d + 1) M_X4_kinds (qI F) 31 [(0, vR 0), (1, vI a1), (2, vI a2), (3, vI a3), (4, vI a4), (5, vI a5), (6, vI r4), (7, vI 0), (8, vI 0)] [] σ5) ∧ (¬ r4 = 0 → F r4 σ5))))))))) : VM g (d + 1) M_X4_kinds (qI F) 0 [(0, vR 0), (1, vI a1), (2, vI a2), (3, vI a3), (4, vI a4), (5, vI a5)] [] σ := by
  refine VE_aload_n 0 dX4_kinds_0 (k := ?_)
  refine VE_aload_n 0 dX4_kinds_1 (k := ?_)
  refine VE_iload_n 1 dX4_kinds_2 (k := ?_)
  refine VE_iload_n 2 dX4_kinds_3 (k := ?_)
  refine VE_iload_n 3 dX4_kinds_4 (k := ?_)
  refine VE_iload 4 dX4_kinds_5 (k := ?_)
  refine VE_iload 5 dX4_kinds_7 (k := ?_)
  refine VE_cVi [vI a1, vI a2, vI a3, vI a4, vI a5] dX4_kinds_9 ml_X4_109 h (fun r1 σ2 h3 => ?_) (rok_D d)
  refine VE_cVi [vI r1] dX4_kinds_12 ml_X4_47 h3 (fun r4 σ5 h6 => ?_) (rok_D d)
  refine VE_istore (ls' := [(6, vI r4), (0, vR 0), (1, vI a1), (2, vI a2), (3, vI a3), (4, vI a4), (5, vI a5)]) dX4_kinds_15 ?_
  refine VE_iload 0 dX4_kinds_17 (k := ?_)
  refine VE_if_eq 25 dX4_kinds_19 (fun c7 => ?_) (fun c7 => ?_)
  · refine VE_iconst 0 dX4_kinds_25 (k := ?_)
    refine VE_istore (ls' := [(7, vI 0), (6, vI r4), (0, vR 0), (1, vI a1), (2, vI a2), (3, vI a3), (4, vI a4), (5, vI a5)]) dX4_kinds_26 ?_
    refine VE_iconst 0 dX4_kinds_28 (k := ?_)
    refine VE_istore (ls' := [(8, vI 0), (7, vI 0), (6, vI r4), (0, vR 0), (1, vI a1), (2, vI a2), (3, vI a3), (4, vI a4), (5, vI a5)]) dX4_kinds_29 ?_
    exact VE_sub [3, 4, 5, 6, 7, 8, 2, 1, 0] rfl (h6.1 c7)
  · refine VE_iload 0 dX4_kinds_22 (k := ?_)
    exact VM_iret dX4_kinds_24 (h6.2 c7)
set_option maxRecDepth 20000 in
theorem S_X4_kinds_31 {g : GG} {d : Nat} {F : Int32 → St → Prop} (x1 : Int32) (x2 : Int32) (x3 : Int32) (x4 : Int32) (x5 : Int32) (x6 : Int32) (x7 : Int32) (x8 : Int32) (σ : St) (h : ((3 ≤ x8 → F x7 σ) ∧ (¬ 3 ≤ x8 → (ME g d M_X1_open [vR 14, vR 10] σ (qV (fun σ3 => (vp_in x1 5 ∧ (ME g d M_X4_lasting [vI x8, vI (σ3 12 x1.toNatClampNeg)] σ3 (qI (fun r5 σ6 => (ME g d M_X4_bitIfAllSo [vR 0, vI x8] (sU σ6 17 x1.toNatClampNeg r5) (qI (fun r8 σ9 => VM g (d + 1) M_X4_kinds (qI F) 31 [(0, vR 0), (1, vI x1), (2, vI x2), (3, vI x3), (4, vI x4), (5, vI x5), (6, vI x6), (7, vI (x7 ||| r8)), (8, vI (x8 + 1))] [] σ9))))))))))))) : VM g (d + 1) M_X4_kinds (qI F) 31 [(0, vR 0), (1, vI x1), (2, vI x2), (3, vI x3), (4, vI x4), (5, vI x5), (6, vI x6), (7, vI x7), (8, vI x8)] [] σ := by
  refine VE_iload 8 dX4_kinds_31 (k := ?_)
  refine VE_iconst 3 dX4_kinds_33 (k := ?_)
  refine VE_icmp_ge 88 dX4_kinds_34 (fun c1 => ?_) (fun c1 => ?_)
  · refine VE_iload 7 dX4_kinds_88 (k := ?_)
    exact VM_iret dX4_kinds_90 (h.1 c1)
  · refine VE_aload_n 0 dX4_kinds_37 (k := ?_)
    refine VE_getR 14 dX4_kinds_38 fl_X4_28 ?_
    refine VE_aload_n 0 dX4_kinds_41 (k := ?_)
    refine VE_getR 10 dX4_kinds_42 fl_X4_21 ?_
    refine VE_cVv [vR 10] dX4_kinds_45 ml_X4_102 (h.2 c1) (fun σ3 h4 => ?_) (rok_D d)
    refine VE_aload_n 0 dX4_kinds_48 (k := ?_)
    refine VE_getR 14 dX4_kinds_49 fl_X4_28 ?_
    refine VE_getR 17 dX4_kinds_52 fl_X4_113 ?_
    refine VE_iload_n 1 dX4_kinds_55 (k := ?_)
    refine VE_iload 8 dX4_kinds_56 (k := ?_)
    refine VE_aload_n 0 dX4_kinds_58 (k := ?_)
    refine VE_getR 10 dX4_kinds_59 fl_X4_21 ?_
    refine VE_getR 12 dX4_kinds_62 fl_X4_71 ?_
    refine VE_iload_n 1 dX4_kinds_65 (k := ?_)
    refine VE_iald dX4_kinds_66 h4.1 ?_
    refine VE_cSi [vI x8, vI (σ3 12 x1.toNatClampNeg)] dX4_kinds_67 ml_X4_77 h4.2 (fun r5 σ6 h7 => ?_) (rok_D d)
    refine VE_iast dX4_kinds_70 h4.1 ?_
    refine VE_iload 7 dX4_kinds_71 (k := ?_)
    refine VE_aload_n 0 dX4_kinds_73 (k := ?_)
    refine VE_iload 8 dX4_kinds_74 (k := ?_)
    refine VE_cVi [vI x8] dX4_kinds_76 ml_X4_106 h7 (fun r8 σ9 h10 => ?_) (rok_D d)
    refine VE_ior dX4_kinds_79 ?_
    refine VE_istore (ls' := [(7, vI (x7 ||| r8)), (0, vR 0), (1, vI x1), (2, vI x2), (3, vI x3), (4, vI x4), (5, vI x5), (6, vI x6), (8, vI x8)]) dX4_kinds_80 ?_
    refine VE_iinc 8 (x8 + 1) (ls' := [(8, vI (x8 + 1)), (7, vI (x7 ||| r8)), (0, vR 0), (1, vI x1), (2, vI x2), (3, vI x3), (4, vI x4), (5, vI x5), (6, vI x6)]) dX4_kinds_82 ?_
    refine VE_goto 31 dX4_kinds_85 ?_
    exact VE_sub [2, 3, 4, 5, 6, 7, 8, 1, 0] rfl h10
theorem dX4_wears_0 : decode cX4_wears 0 = .ok (.aload_n 0, 1) := by decide +kernel
theorem dX4_wears_1 : decode cX4_wears 1 = .ok (.aload_n 0, 1) := by decide +kernel
theorem dX4_wears_2 : decode cX4_wears 2 = .ok (.iload_n 1, 1) := by decide +kernel
theorem dX4_wears_3 : decode cX4_wears 3 = .ok (.iload_n 2, 1) := by decide +kernel
theorem dX4_wears_4 : decode cX4_wears 4 = .ok (.iload_n 3, 1) := by decide +kernel
theorem dX4_wears_5 : decode cX4_wears 5 = .ok (.iload 4, 2) := by decide +kernel
theorem dX4_wears_7 : decode cX4_wears 7 = .ok (.iload 5, 2) := by decide +kernel
theorem dX4_wears_9 : decode cX4_wears 9 = .ok (.invokevirtual 109, 3) := by decide +kernel
theorem dX4_wears_12 : decode cX4_wears 12 = .ok (.invokevirtual 47, 3) := by decide +kernel
theorem dX4_wears_15 : decode cX4_wears 15 = .ok (.istore 6, 2) := by decide +kernel
theorem dX4_wears_17 : decode cX4_wears 17 = .ok (.iload 6, 2) := by decide +kernel
theorem dX4_wears_19 : decode cX4_wears 19 = .ok (.ifCond .eq 6, 3) := by decide +kernel
theorem dX4_wears_22 : decode cX4_wears 22 = .ok (.iload 6, 2) := by decide +kernel
theorem dX4_wears_24 : decode cX4_wears 24 = .ok (.ireturn, 1) := by decide +kernel
theorem dX4_wears_25 : decode cX4_wears 25 = .ok (.iconst 0, 1) := by decide +kernel
theorem dX4_wears_26 : decode cX4_wears 26 = .ok (.istore 7, 2) := by decide +kernel
theorem dX4_wears_28 : decode cX4_wears 28 = .ok (.iconst 1, 1) := by decide +kernel
theorem dX4_wears_29 : decode cX4_wears 29 = .ok (.istore 8, 2) := by decide +kernel
theorem dX4_wears_31 : decode cX4_wears 31 = .ok (.iload 8, 2) := by decide +kernel
theorem dX4_wears_33 : decode cX4_wears 33 = .ok (.bipush 9, 2) := by decide +kernel
theorem dX4_wears_35 : decode cX4_wears 35 = .ok (.if_icmp .gt 54, 3) := by decide +kernel
theorem dX4_wears_38 : decode cX4_wears 38 = .ok (.aload_n 0, 1) := by decide +kernel
theorem dX4_wears_39 : decode cX4_wears 39 = .ok (.getfield 28, 3) := by decide +kernel
theorem dX4_wears_42 : decode cX4_wears 42 = .ok (.aload_n 0, 1) := by decide +kernel
theorem dX4_wears_43 : decode cX4_wears 43 = .ok (.getfield 21, 3) := by decide +kernel
theorem dX4_wears_46 : decode cX4_wears 46 = .ok (.invokevirtual 102, 3) := by decide +kernel
theorem dX4_wears_49 : decode cX4_wears 49 = .ok (.aload_n 0, 1) := by decide +kernel
theorem dX4_wears_50 : decode cX4_wears 50 = .ok (.getfield 28, 3) := by decide +kernel
theorem dX4_wears_53 : decode cX4_wears 53 = .ok (.getfield 113, 3) := by decide +kernel
theorem dX4_wears_56 : decode cX4_wears 56 = .ok (.iload_n 1, 1) := by decide +kernel
theorem dX4_wears_57 : decode cX4_wears 57 = .ok (.aload_n 0, 1) := by decide +kernel
theorem dX4_wears_58 : decode cX4_wears 58 = .ok (.getfield 21, 3) := by decide +kernel
theorem dX4_wears_61 : decode cX4_wears 61 = .ok (.getfield 68, 3) := by decide +kernel
theorem dX4_wears_64 : decode cX4_wears 64 = .ok (.iload_n 1, 1) := by decide +kernel
theorem dX4_wears_65 : decode cX4_wears 65 = .ok (.iaload, 1) := by decide +kernel
theorem dX4_wears_66 : decode cX4_wears 66 = .ok (.iload 8, 2) := by decide +kernel
theorem dX4_wears_68 : decode cX4_wears 68 = .ok (.invokestatic 77, 3) := by decide +kernel
theorem dX4_wears_71 : decode cX4_wears 71 = .ok (.iastore, 1) := by decide +kernel
theorem dX4_wears_72 : decode cX4_wears 72 = .ok (.iload 7, 2) := by decide +kernel
theorem dX4_wears_74 : decode cX4_wears 74 = .ok (.aload_n 0, 1) := by decide +kernel
theorem dX4_wears_75 : decode cX4_wears 75 = .ok (.iload 8, 2) := by decide +kernel
theorem dX4_wears_77 : decode cX4_wears 77 = .ok (.invokevirtual 106, 3) := by decide +kernel
theorem dX4_wears_80 : decode cX4_wears 80 = .ok (.ior, 1) := by decide +kernel
theorem dX4_wears_81 : decode cX4_wears 81 = .ok (.istore 7, 2) := by decide +kernel
theorem dX4_wears_83 : decode cX4_wears 83 = .ok (.iinc 8 1, 3) := by decide +kernel
theorem dX4_wears_86 : decode cX4_wears 86 = .ok (.goto (-55), 3) := by decide +kernel
theorem dX4_wears_89 : decode cX4_wears 89 = .ok (.iload 7, 2) := by decide +kernel
theorem dX4_wears_91 : decode cX4_wears 91 = .ok (.ireturn, 1) := by decide +kernel
set_option maxRecDepth 20000 in
theorem S_X4_wears_0 {g : GG} {d : Nat} {F : Int32 → St → Prop} (a1 : Int32) (a2 : Int32) (a3 : Int32) (a4 : Int32) (a5 : Int32) (σ : St) (h : (ME g d M_X4_troubleOfOne [vR 0, vI a1, vI a2, vI a3, vI a4, vI a5] σ (qI (fun r1 σ2 => (ME g d M_X4_noted [vR 0, vI r1] σ2 (qI (fun r4 σ5 => ((r4 = 0 → VM g (d + 1) M_X4_wears (qI F) 31 [(0, vR 0), (1, vI a1), (2, vI a2), (3, vI a3), (4, vI a4), (5, vI a5), (6, vI r4), (7, vI 0), (8, vI 1)] [] σ5) ∧ (¬ r4 = 0 → F r4 σ5))))))))) : VM g (d + 1) M_X4_wears (qI F) 0 [(0, vR 0), (1, vI a1), (2, vI a2), (3, vI a3), (4, vI a4), (5, vI a5)] [] σ := by
  refine VE_aload_n 0 dX4_wears_0 (k := ?_)
  refine VE_aload_n 0 dX4_wears_1 (k := ?_)
  refine VE_iload_n 1 dX4_wears_2 (k := ?_)
  refine VE_iload_n 2 dX4_wears_3 (k := ?_)
  refine VE_iload_n 3 dX4_wears_4 (k := ?_)
  refine VE_iload 4 dX4_wears_5 (k := ?_)
  refine VE_iload 5 dX4_wears_7 (k := ?_)
  refine VE_cVi [vI a1, vI a2, vI a3, vI a4, vI a5] dX4_wears_9 ml_X4_109 h (fun r1 σ2 h3 => ?_) (rok_D d)
  refine VE_cVi [vI r1] dX4_wears_12 ml_X4_47 h3 (fun r4 σ5 h6 => ?_) (rok_D d)
  refine VE_istore (ls' := [(6, vI r4), (0, vR 0), (1, vI a1), (2, vI a2), (3, vI a3), (4, vI a4), (5, vI a5)]) dX4_wears_15 ?_
  refine VE_iload 0 dX4_wears_17 (k := ?_)
  refine VE_if_eq 25 dX4_wears_19 (fun c7 => ?_) (fun c7 => ?_)
  · refine VE_iconst 0 dX4_wears_25 (k := ?_)
    refine VE_istore (ls' := [(7, vI 0), (6, vI r4), (0, vR 0), (1, vI a1), (2, vI a2), (3, vI a3), (4, vI a4), (5, vI a5)]) dX4_wears_26 ?_
    refine VE_iconst 1 dX4_wears_28 (k := ?_)
    refine VE_istore (ls' := [(8, vI 1), (7, vI 0), (6, vI r4), (0, vR 0), (1, vI a1), (2, vI a2), (3, vI a3), (4, vI a4), (5, vI a5)]) dX4_wears_29 ?_
    exact VE_sub [3, 4, 5, 6, 7, 8, 2, 1, 0] rfl (h6.1 c7)
  · refine VE_iload 0 dX4_wears_22 (k := ?_)
    exact VM_iret dX4_wears_24 (h6.2 c7)
set_option maxRecDepth 20000 in
theorem S_X4_wears_31 {g : GG} {d : Nat} {F : Int32 → St → Prop} (x1 : Int32) (x2 : Int32) (x3 : Int32) (x4 : Int32) (x5 : Int32) (x6 : Int32) (x7 : Int32) (x8 : Int32) (σ : St) (h : ((9 < x8 → F x7 σ) ∧ (¬ 9 < x8 → (ME g d M_X1_open [vR 14, vR 10] σ (qV (fun σ3 => (vp_in x1 5 ∧ (ME g d M_X4_lasting [vI (σ3 11 x1.toNatClampNeg), vI x8] σ3 (qI (fun r5 σ6 => (ME g d M_X4_bitIfAllSo [vR 0, vI x8] (sU σ6 17 x1.toNatClampNeg r5) (qI (fun r8 σ9 => VM g (d + 1) M_X4_wears (qI F) 31 [(0, vR 0), (1, vI x1), (2, vI x2), (3, vI x3), (4, vI x4), (5, vI x5), (6, vI x6), (7, vI (x7 ||| r8)), (8, vI (x8 + 1))] [] σ9))))))))))))) : VM g (d + 1) M_X4_wears (qI F) 31 [(0, vR 0), (1, vI x1), (2, vI x2), (3, vI x3), (4, vI x4), (5, vI x5), (6, vI x6), (7, vI x7), (8, vI x8)] [] σ := by
  refine VE_iload 8 dX4_wears_31 (k := ?_)
  refine VE_bipush 9 dX4_wears_33 (k := ?_)
  refine VE_icmp_gt 89 dX4_wears_35 (fun c1 => ?_) (fun c1 => ?_)
  · refine VE_iload 7 dX4_wears_89 (k := ?_)
    exact VM_iret dX4_wears_91 (h.1 c1)
  · refine VE_aload_n 0 dX4_wears_38 (k := ?_)
    refine VE_getR 14 dX4_wears_39 fl_X4_28 ?_
    refine VE_aload_n 0 dX4_wears_42 (k := ?_)
    refine VE_getR 10 dX4_wears_43 fl_X4_21 ?_
    refine VE_cVv [vR 10] dX4_wears_46 ml_X4_102 (h.2 c1) (fun σ3 h4 => ?_) (rok_D d)
    refine VE_aload_n 0 dX4_wears_49 (k := ?_)
    refine VE_getR 14 dX4_wears_50 fl_X4_28 ?_
    refine VE_getR 17 dX4_wears_53 fl_X4_113 ?_
    refine VE_iload_n 1 dX4_wears_56 (k := ?_)
    refine VE_aload_n 0 dX4_wears_57 (k := ?_)
    refine VE_getR 10 dX4_wears_58 fl_X4_21 ?_
    refine VE_getR 11 dX4_wears_61 fl_X4_68 ?_
    refine VE_iload_n 1 dX4_wears_64 (k := ?_)
    refine VE_iald dX4_wears_65 h4.1 ?_
    refine VE_iload 8 dX4_wears_66 (k := ?_)
    refine VE_cSi [vI (σ3 11 x1.toNatClampNeg), vI x8] dX4_wears_68 ml_X4_77 h4.2 (fun r5 σ6 h7 => ?_) (rok_D d)
    refine VE_iast dX4_wears_71 h4.1 ?_
    refine VE_iload 7 dX4_wears_72 (k := ?_)
    refine VE_aload_n 0 dX4_wears_74 (k := ?_)
    refine VE_iload 8 dX4_wears_75 (k := ?_)
    refine VE_cVi [vI x8] dX4_wears_77 ml_X4_106 h7 (fun r8 σ9 h10 => ?_) (rok_D d)
    refine VE_ior dX4_wears_80 ?_
    refine VE_istore (ls' := [(7, vI (x7 ||| r8)), (0, vR 0), (1, vI x1), (2, vI x2), (3, vI x3), (4, vI x4), (5, vI x5), (6, vI x6), (8, vI x8)]) dX4_wears_81 ?_
    refine VE_iinc 8 (x8 + 1) (ls' := [(8, vI (x8 + 1)), (7, vI (x7 ||| r8)), (0, vR 0), (1, vI x1), (2, vI x2), (3, vI x3), (4, vI x4), (5, vI x5), (6, vI x6)]) dX4_wears_83 ?_
    refine VE_goto 31 dX4_wears_86 ?_
    exact VE_sub [2, 3, 4, 5, 6, 7, 8, 1, 0] rfl h10
theorem dX4_odds_0 : decode cX4_odds 0 = .ok (.aload_n 0, 1) := by decide +kernel
theorem dX4_odds_1 : decode cX4_odds 1 = .ok (.getfield 21, 3) := by decide +kernel
theorem dX4_odds_4 : decode cX4_odds 4 = .ok (.iload_n 1, 1) := by decide +kernel
theorem dX4_odds_5 : decode cX4_odds 5 = .ok (.invokevirtual 64, 3) := by decide +kernel
theorem dX4_odds_8 : decode cX4_odds 8 = .ok (.ifCond .eq 14, 3) := by decide +kernel
theorem dX4_odds_11 : decode cX4_odds 11 = .ok (.aload_n 0, 1) := by decide +kernel
theorem dX4_odds_12 : decode cX4_odds 12 = .ok (.getfield 21, 3) := by decide +kernel
theorem dX4_odds_15 : decode cX4_odds 15 = .ok (.iload_n 2, 1) := by decide +kernel
theorem dX4_odds_16 : decode cX4_odds 16 = .ok (.invokevirtual 64, 3) := by decide +kernel
theorem dX4_odds_19 : decode cX4_odds 19 = .ok (.ifCond .ne 7, 3) := by decide +kernel
theorem dX4_odds_22 : decode cX4_odds 22 = .ok (.ldc2_w 116, 3) := by decide +kernel
theorem dX4_odds_25 : decode cX4_odds 25 = .ok (.lreturn, 1) := by decide +kernel
theorem dX4_odds_26 : decode cX4_odds 26 = .ok (.iload_n 3, 1) := by decide +kernel
theorem dX4_odds_27 : decode cX4_odds 27 = .ok (.ifCond .lt 19, 3) := by decide +kernel
theorem dX4_odds_30 : decode cX4_odds 30 = .ok (.iload_n 3, 1) := by decide +kernel
theorem dX4_odds_31 : decode cX4_odds 31 = .ok (.iconst 5, 1) := by decide +kernel
theorem dX4_odds_32 : decode cX4_odds 32 = .ok (.if_icmp .gt 14, 3) := by decide +kernel
theorem dX4_odds_35 : decode cX4_odds 35 = .ok (.iload 4, 2) := by decide +kernel
theorem dX4_odds_37 : decode cX4_odds 37 = .ok (.ifCond .lt 9, 3) := by decide +kernel
theorem dX4_odds_40 : decode cX4_odds 40 = .ok (.iload 4, 2) := by decide +kernel
theorem dX4_odds_42 : decode cX4_odds 42 = .ok (.iconst 1, 1) := by decide +kernel
theorem dX4_odds_43 : decode cX4_odds 43 = .ok (.if_icmp .le 7, 3) := by decide +kernel
theorem dX4_odds_46 : decode cX4_odds 46 = .ok (.ldc2_w 116, 3) := by decide +kernel
theorem dX4_odds_49 : decode cX4_odds 49 = .ok (.lreturn, 1) := by decide +kernel
theorem dX4_odds_50 : decode cX4_odds 50 = .ok (.iconst 1, 1) := by decide +kernel
theorem dX4_odds_51 : decode cX4_odds 51 = .ok (.istore 5, 2) := by decide +kernel
theorem dX4_odds_53 : decode cX4_odds 53 = .ok (.iconst 0, 1) := by decide +kernel
theorem dX4_odds_54 : decode cX4_odds 54 = .ok (.istore 6, 2) := by decide +kernel
theorem dX4_odds_56 : decode cX4_odds 56 = .ok (.iload 6, 2) := by decide +kernel
theorem dX4_odds_58 : decode cX4_odds 58 = .ok (.iload_n 3, 1) := by decide +kernel
theorem dX4_odds_59 : decode cX4_odds 59 = .ok (.if_icmp .ge 21, 3) := by decide +kernel
theorem dX4_odds_62 : decode cX4_odds 62 = .ok (.iload 5, 2) := by decide +kernel
theorem dX4_odds_64 : decode cX4_odds 64 = .ok (.aload_n 0, 1) := by decide +kernel
theorem dX4_odds_65 : decode cX4_odds 65 = .ok (.getfield 21, 3) := by decide +kernel
theorem dX4_odds_68 : decode cX4_odds 68 = .ok (.getfield 63, 3) := by decide +kernel
theorem dX4_odds_71 : decode cX4_odds 71 = .ok (.imul, 1) := by decide +kernel
theorem dX4_odds_72 : decode cX4_odds 72 = .ok (.istore 5, 2) := by decide +kernel
theorem dX4_odds_74 : decode cX4_odds 74 = .ok (.iinc 6 1, 3) := by decide +kernel
theorem dX4_odds_77 : decode cX4_odds 77 = .ok (.goto (-21), 3) := by decide +kernel
theorem dX4_odds_80 : decode cX4_odds 80 = .ok (.aload_n 0, 1) := by decide +kernel
theorem dX4_odds_81 : decode cX4_odds 81 = .ok (.getfield 28, 3) := by decide +kernel
theorem dX4_odds_84 : decode cX4_odds 84 = .ok (.aload_n 0, 1) := by decide +kernel
theorem dX4_odds_85 : decode cX4_odds 85 = .ok (.getfield 21, 3) := by decide +kernel
theorem dX4_odds_88 : decode cX4_odds 88 = .ok (.invokevirtual 102, 3) := by decide +kernel
theorem dX4_odds_91 : decode cX4_odds 91 = .ok (.aload_n 0, 1) := by decide +kernel
theorem dX4_odds_92 : decode cX4_odds 92 = .ok (.getfield 28, 3) := by decide +kernel
theorem dX4_odds_95 : decode cX4_odds 95 = .ok (.iload_n 1, 1) := by decide +kernel
theorem dX4_odds_96 : decode cX4_odds 96 = .ok (.iload_n 2, 1) := by decide +kernel
theorem dX4_odds_97 : decode cX4_odds 97 = .ok (.iload_n 3, 1) := by decide +kernel
theorem dX4_odds_98 : decode cX4_odds 98 = .ok (.invokestatic 118, 3) := by decide +kernel
theorem dX4_odds_101 : decode cX4_odds 101 = .ok (.istore 6, 2) := by decide +kernel
theorem dX4_odds_103 : decode cX4_odds 103 = .ok (.iload 6, 2) := by decide +kernel
theorem dX4_odds_105 : decode cX4_odds 105 = .ok (.iload 5, 2) := by decide +kernel
theorem dX4_odds_107 : decode cX4_odds 107 = .ok (.invokestatic 122, 3) := by decide +kernel
theorem dX4_odds_110 : decode cX4_odds 110 = .ok (.istore 7, 2) := by decide +kernel
theorem dX4_odds_112 : decode cX4_odds 112 = .ok (.iload 4, 2) := by decide +kernel
theorem dX4_odds_114 : decode cX4_odds 114 = .ok (.ifCond .ne 8, 3) := by decide +kernel
theorem dX4_odds_117 : decode cX4_odds 117 = .ok (.iload 6, 2) := by decide +kernel
theorem dX4_odds_119 : decode cX4_odds 119 = .ok (.goto 5, 3) := by decide +kernel
theorem dX4_odds_122 : decode cX4_odds 122 = .ok (.iload 5, 2) := by decide +kernel
theorem dX4_odds_124 : decode cX4_odds 124 = .ok (.iload 7, 2) := by decide +kernel
theorem dX4_odds_126 : decode cX4_odds 126 = .ok (.idiv, 1) := by decide +kernel
theorem dX4_odds_127 : decode cX4_odds 127 = .ok (.i2l, 1) := by decide +kernel
theorem dX4_odds_128 : decode cX4_odds 128 = .ok (.lreturn, 1) := by decide +kernel
set_option maxRecDepth 20000 in
theorem S_X4_odds_0 {g : GG} {d : Nat} {F : Int64 → St → Prop} (a1 : Int32) (a2 : Int32) (a3 : Int32) (a4 : Int32) (σ : St) (h : (ME g d M_X0_has [vR 10, vI a1] σ (qI (fun r1 σ2 => ((r1 = 0 → F (-9223372036854775808) σ2) ∧ (¬ r1 = 0 → (ME g d M_X0_has [vR 10, vI a2] σ2 (qI (fun r5 σ6 => ((¬ r5 = 0 → ((a3 < 0 → F (-9223372036854775808) σ6) ∧ (¬ a3 < 0 → ((5 < a3 → F (-9223372036854775808) σ6) ∧ (¬ 5 < a3 → ((a4 < 0 → F (-9223372036854775808) σ6) ∧ (¬ a4 < 0 → ((a4 ≤ 1 → VM g (d + 1) M_X4_odds (qL F) 56 [(0, vR 0), (1, vI a1), (2, vI a2), (3, vI a3), (4, vI a4), (5, vI 1), (6, vI 0)] [] σ6) ∧ (¬ a4 ≤ 1 → F (-9223372036854775808) σ6))))))))) ∧ (r5 = 0 → F (-9223372036854775808) σ6))))))))))) : VM g (d + 1) M_X4_odds (qL F) 0 [(0, vR 0), (1, vI a1), (2, vI a2), (3, vI a3), (4, vI a4)] [] σ := by
  refine VE_aload_n 0 dX4_odds_0 (k := ?_)
  refine VE_getR 10 dX4_odds_1 fl_X4_21 ?_
  refine VE_iload_n 1 dX4_odds_4 (k := ?_)
  refine VE_cVi [vI a1] dX4_odds_5 ml_X4_64 h (fun r1 σ2 h3 => ?_) (rok_D d)
  refine VE_if_eq 22 dX4_odds_8 (fun c4 => ?_) (fun c4 => ?_)
  · refine VE_ldc2 (-9223372036854775808) 361 dX4_odds_22 ⟨by decide +kernel, rfl⟩ ?_
    exact VM_lret dX4_odds_25 (h3.1 c4)
  · refine VE_aload_n 0 dX4_odds_11 (k := ?_)
    refine VE_getR 10 dX4_odds_12 fl_X4_21 ?_
    refine VE_iload_n 2 dX4_odds_15 (k := ?_)
    refine VE_cVi [vI a2] dX4_odds_16 ml_X4_64 (h3.2 c4) (fun r5 σ6 h7 => ?_) (rok_D d)
    refine VE_if_ne 26 dX4_odds_19 (fun c8 => ?_) (fun c8 => ?_)
    · refine VE_iload_n 3 dX4_odds_26 (k := ?_)
      refine VE_if_lt 46 dX4_odds_27 (fun c9 => ?_) (fun c9 => ?_)
      · refine VE_ldc2 (-9223372036854775808) 361 dX4_odds_46 ⟨by decide +kernel, rfl⟩ ?_
        exact VM_lret dX4_odds_49 ((h7.1 c8).1 c9)
      · refine VE_iload_n 3 dX4_odds_30 (k := ?_)
        refine VE_iconst 5 dX4_odds_31 (k := ?_)
        refine VE_icmp_gt 46 dX4_odds_32 (fun c10 => ?_) (fun c10 => ?_)
        · refine VE_ldc2 (-9223372036854775808) 361 dX4_odds_46 ⟨by decide +kernel, rfl⟩ ?_
          exact VM_lret dX4_odds_49 (((h7.1 c8).2 c9).1 c10)
        · refine VE_iload 4 dX4_odds_35 (k := ?_)
          refine VE_if_lt 46 dX4_odds_37 (fun c11 => ?_) (fun c11 => ?_)
          · refine VE_ldc2 (-9223372036854775808) 361 dX4_odds_46 ⟨by decide +kernel, rfl⟩ ?_
            exact VM_lret dX4_odds_49 ((((h7.1 c8).2 c9).2 c10).1 c11)
          · refine VE_iload 4 dX4_odds_40 (k := ?_)
            refine VE_iconst 1 dX4_odds_42 (k := ?_)
            refine VE_icmp_le 50 dX4_odds_43 (fun c12 => ?_) (fun c12 => ?_)
            · refine VE_iconst 1 dX4_odds_50 (k := ?_)
              refine VE_istore (ls' := [(5, vI 1), (0, vR 0), (1, vI a1), (2, vI a2), (3, vI a3), (4, vI a4)]) dX4_odds_51 ?_
              refine VE_iconst 0 dX4_odds_53 (k := ?_)
              refine VE_istore (ls' := [(6, vI 0), (5, vI 1), (0, vR 0), (1, vI a1), (2, vI a2), (3, vI a3), (4, vI a4)]) dX4_odds_54 ?_
              exact VE_sub [2, 3, 4, 5, 6, 1, 0] rfl (((((h7.1 c8).2 c9).2 c10).2 c11).1 c12)
            · refine VE_ldc2 (-9223372036854775808) 361 dX4_odds_46 ⟨by decide +kernel, rfl⟩ ?_
              exact VM_lret dX4_odds_49 (((((h7.1 c8).2 c9).2 c10).2 c11).2 c12)
    · refine VE_ldc2 (-9223372036854775808) 361 dX4_odds_22 ⟨by decide +kernel, rfl⟩ ?_
      exact VM_lret dX4_odds_25 (h7.2 c8)
set_option maxRecDepth 20000 in
theorem S_X4_odds_56 {g : GG} {d : Nat} {F : Int64 → St → Prop} (x1 : Int32) (x2 : Int32) (x3 : Int32) (x4 : Int32) (x5 : Int32) (x6 : Int32) (σ : St) (h : ((x3 ≤ x6 → (ME g d M_X1_open [vR 14, vR 10] σ (qV (fun σ3 => (ME g d M_X4_rowsTo [vR 14, vI x1, vI x2, vI x3] σ3 (qI (fun r5 σ6 => (ME g d M_X4_greatestDivisor [vI r5, vI x5] σ6 (qI (fun r8 σ9 => ((¬ x4 = 0 → (¬ r8 = 0 ∧ F ((x5 / r8).toInt64) σ9)) ∧ (x4 = 0 → (¬ r8 = 0 ∧ F ((r5 / r8).toInt64) σ9))))))))))))) ∧ (¬ x3 ≤ x6 → VM g (d + 1) M_X4_odds (qL F) 56 [(0, vR 0), (1, vI x1), (2, vI x2), (3, vI x3), (4, vI x4), (5, vI (x5 * (σ 10 3))), (6, vI (x6 + 1))] [] σ))) : VM g (d + 1) M_X4_odds (qL F) 56 [(0, vR 0), (1, vI x1), (2, vI x2), (3, vI x3), (4, vI x4), (5, vI x5), (6, vI x6)] [] σ := by
  refine VE_iload 6 dX4_odds_56 (k := ?_)
  refine VE_iload_n 3 dX4_odds_58 (k := ?_)
  refine VE_icmp_ge 80 dX4_odds_59 (fun c1 => ?_) (fun c1 => ?_)
  · refine VE_aload_n 0 dX4_odds_80 (k := ?_)
    refine VE_getR 14 dX4_odds_81 fl_X4_28 ?_
    refine VE_aload_n 0 dX4_odds_84 (k := ?_)
    refine VE_getR 10 dX4_odds_85 fl_X4_21 ?_
    refine VE_cVv [vR 10] dX4_odds_88 ml_X4_102 (h.1 c1) (fun σ3 h4 => ?_) (rok_D d)
    refine VE_aload_n 0 dX4_odds_91 (k := ?_)
    refine VE_getR 14 dX4_odds_92 fl_X4_28 ?_
    refine VE_iload_n 1 dX4_odds_95 (k := ?_)
    refine VE_iload_n 2 dX4_odds_96 (k := ?_)
    refine VE_iload_n 3 dX4_odds_97 (k := ?_)
    refine VE_cSi [vR 14, vI x1, vI x2, vI x3] dX4_odds_98 ml_X4_118 h4 (fun r5 σ6 h7 => ?_) (rok_D d)
    refine VE_istore (ls' := [(6, vI r5), (0, vR 0), (1, vI x1), (2, vI x2), (3, vI x3), (4, vI x4), (5, vI x5)]) dX4_odds_101 ?_
    refine VE_iload 0 dX4_odds_103 (k := ?_)
    refine VE_iload 6 dX4_odds_105 (k := ?_)
    refine VE_cSi [vI r5, vI x5] dX4_odds_107 ml_X4_122 h7 (fun r8 σ9 h10 => ?_) (rok_D d)
    refine VE_istore (ls' := [(7, vI r8), (6, vI r5), (0, vR 0), (1, vI x1), (2, vI x2), (3, vI x3), (4, vI x4), (5, vI x5)]) dX4_odds_110 ?_
    refine VE_iload 6 dX4_odds_112 (k := ?_)
    refine VE_if_ne 122 dX4_odds_114 (fun c11 => ?_) (fun c11 => ?_)
    · refine VE_iload 7 dX4_odds_122 (k := ?_)
      refine VE_iload 0 dX4_odds_124 (k := ?_)
      refine VE_idiv dX4_odds_126 (h10.1 c11).1 ?_
      refine VE_i2l dX4_odds_127 ?_
      exact VM_lret dX4_odds_128 (h10.1 c11).2
    · refine VE_iload 1 dX4_odds_117 (k := ?_)
      refine VE_goto 124 dX4_odds_119 ?_
      refine VE_iload 0 dX4_odds_124 (k := ?_)
      refine VE_idiv dX4_odds_126 (h10.2 c11).1 ?_
      refine VE_i2l dX4_odds_127 ?_
      exact VM_lret dX4_odds_128 (h10.2 c11).2
  · refine VE_iload 5 dX4_odds_62 (k := ?_)
    refine VE_aload_n 0 dX4_odds_64 (k := ?_)
    refine VE_getR 10 dX4_odds_65 fl_X4_21 ?_
    refine VE_getI dX4_odds_68 fl_X4_63 ?_
    refine VE_imul dX4_odds_71 ?_
    refine VE_istore (ls' := [(5, vI (x5 * (σ 10 3))), (0, vR 0), (1, vI x1), (2, vI x2), (3, vI x3), (4, vI x4), (6, vI x6)]) dX4_odds_72 ?_
    refine VE_iinc 6 (x6 + 1) (ls' := [(6, vI (x6 + 1)), (5, vI (x5 * (σ 10 3))), (0, vR 0), (1, vI x1), (2, vI x2), (3, vI x3), (4, vI x4)]) dX4_odds_74 ?_
    refine VE_goto 56 dX4_odds_77 ?_
    exact VE_sub [2, 3, 4, 5, 6, 1, 0] rfl (h.2 c1)
theorem dX4_sheet_0 : decode cX4_sheet 0 = .ok (.aload_n 0, 1) := by decide +kernel
theorem dX4_sheet_1 : decode cX4_sheet 1 = .ok (.aload_n 0, 1) := by decide +kernel
theorem dX4_sheet_2 : decode cX4_sheet 2 = .ok (.iload_n 1, 1) := by decide +kernel
theorem dX4_sheet_3 : decode cX4_sheet 3 = .ok (.iload_n 2, 1) := by decide +kernel
theorem dX4_sheet_4 : decode cX4_sheet 4 = .ok (.iload_n 3, 1) := by decide +kernel
theorem dX4_sheet_5 : decode cX4_sheet 5 = .ok (.invokevirtual 125, 3) := by decide +kernel
theorem dX4_sheet_8 : decode cX4_sheet 8 = .ok (.invokevirtual 47, 3) := by decide +kernel
theorem dX4_sheet_11 : decode cX4_sheet 11 = .ok (.istore 4, 2) := by decide +kernel
theorem dX4_sheet_13 : decode cX4_sheet 13 = .ok (.iload 4, 2) := by decide +kernel
theorem dX4_sheet_15 : decode cX4_sheet 15 = .ok (.ifCond .eq 6, 3) := by decide +kernel
theorem dX4_sheet_18 : decode cX4_sheet 18 = .ok (.iload 4, 2) := by decide +kernel
theorem dX4_sheet_20 : decode cX4_sheet 20 = .ok (.ireturn, 1) := by decide +kernel
theorem dX4_sheet_21 : decode cX4_sheet 21 = .ok (.aload_n 0, 1) := by decide +kernel
theorem dX4_sheet_22 : decode cX4_sheet 22 = .ok (.getfield 13, 3) := by decide +kernel
theorem dX4_sheet_25 : decode cX4_sheet 25 = .ok (.iload_n 1, 1) := by decide +kernel
theorem dX4_sheet_26 : decode cX4_sheet 26 = .ok (.aaload, 1) := by decide +kernel
theorem dX4_sheet_27 : decode cX4_sheet 27 = .ok (.iload_n 2, 1) := by decide +kernel
theorem dX4_sheet_28 : decode cX4_sheet 28 = .ok (.iload_n 3, 1) := by decide +kernel
theorem dX4_sheet_29 : decode cX4_sheet 29 = .ok (.invokevirtual 128, 3) := by decide +kernel
theorem dX4_sheet_32 : decode cX4_sheet 32 = .ok (.iconst 1, 1) := by decide +kernel
theorem dX4_sheet_33 : decode cX4_sheet 33 = .ok (.ireturn, 1) := by decide +kernel
set_option maxRecDepth 20000 in
theorem S_X4_sheet_0 {g : GG} {d : Nat} {F : Int32 → St → Prop} (a1 : Int32) (a2 : Int32) (a3 : Int32) (σ : St) (h : (ME g d M_X4_troubleOfNew [vR 0, vI a1, vI a2, vI a3] σ (qI (fun r1 σ2 => (ME g d M_X4_noted [vR 0, vI r1] σ2 (qI (fun r4 σ5 => ((r4 = 0 → (vp_in a1 4 ∧ (ME g d M_X3_renew [vR (2 + a1.toNatClampNeg), vI a2, vI a3] σ5 (qV (fun σ9 => F 1 σ9))))) ∧ (¬ r4 = 0 → F r4 σ5))))))))) : VM g (d + 1) M_X4_sheet (qI F) 0 [(0, vR 0), (1, vI a1), (2, vI a2), (3, vI a3)] [] σ := by
  refine VE_aload_n 0 dX4_sheet_0 (k := ?_)
  refine VE_aload_n 0 dX4_sheet_1 (k := ?_)
  refine VE_iload_n 1 dX4_sheet_2 (k := ?_)
  refine VE_iload_n 2 dX4_sheet_3 (k := ?_)
  refine VE_iload_n 3 dX4_sheet_4 (k := ?_)
  refine VE_cVi [vI a1, vI a2, vI a3] dX4_sheet_5 ml_X4_125 h (fun r1 σ2 h3 => ?_) (rok_D d)
  refine VE_cVi [vI r1] dX4_sheet_8 ml_X4_47 h3 (fun r4 σ5 h6 => ?_) (rok_D d)
  refine VE_istore (ls' := [(4, vI r4), (0, vR 0), (1, vI a1), (2, vI a2), (3, vI a3)]) dX4_sheet_11 ?_
  refine VE_iload 0 dX4_sheet_13 (k := ?_)
  refine VE_if_eq 21 dX4_sheet_15 (fun c7 => ?_) (fun c7 => ?_)
  · refine VE_aload_n 1 dX4_sheet_21 (k := ?_)
    refine VE_getR 1 dX4_sheet_22 fl_X4_13 ?_
    refine VE_iload_n 2 dX4_sheet_25 (k := ?_)
    refine VE_aald dX4_sheet_26 (h6.1 c7).1 ?_
    refine VE_iload_n 3 dX4_sheet_27 (k := ?_)
    refine VE_iload_n 4 dX4_sheet_28 (k := ?_)
    refine VE_cVv [vI a2, vI a3] dX4_sheet_29 ml_X4_128 (h6.1 c7).2 (fun σ9 h10 => ?_) (rok_D d) (hj := sh_ocl (vin_lt (h6.1 c7).1))
    refine VE_iconst 1 dX4_sheet_32 (k := ?_)
    exact VM_iret dX4_sheet_33 h10
  · refine VE_iload 0 dX4_sheet_18 (k := ?_)
    exact VM_iret dX4_sheet_20 (h6.2 c7)
theorem dX4_lose_0 : decode cX4_lose 0 = .ok (.iload_n 1, 1) := by decide +kernel
theorem dX4_lose_1 : decode cX4_lose 1 = .ok (.invokestatic 132, 3) := by decide +kernel
theorem dX4_lose_4 : decode cX4_lose 4 = .ok (.ifCond .ne 5, 3) := by decide +kernel
theorem dX4_lose_7 : decode cX4_lose 7 = .ok (.iconst (-1), 1) := by decide +kernel
theorem dX4_lose_8 : decode cX4_lose 8 = .ok (.ireturn, 1) := by decide +kernel
theorem dX4_lose_9 : decode cX4_lose 9 = .ok (.aload_n 0, 1) := by decide +kernel
theorem dX4_lose_10 : decode cX4_lose 10 = .ok (.getfield 13, 3) := by decide +kernel
theorem dX4_lose_13 : decode cX4_lose 13 = .ok (.iload_n 1, 1) := by decide +kernel
theorem dX4_lose_14 : decode cX4_lose 14 = .ok (.aaload, 1) := by decide +kernel
theorem dX4_lose_15 : decode cX4_lose 15 = .ok (.invokevirtual 135, 3) := by decide +kernel
theorem dX4_lose_18 : decode cX4_lose 18 = .ok (.ifCond .eq 7, 3) := by decide +kernel
theorem dX4_lose_21 : decode cX4_lose 21 = .ok (.iconst 0, 1) := by decide +kernel
theorem dX4_lose_22 : decode cX4_lose 22 = .ok (.goto 4, 3) := by decide +kernel
theorem dX4_lose_25 : decode cX4_lose 25 = .ok (.iconst 1, 1) := by decide +kernel
theorem dX4_lose_26 : decode cX4_lose 26 = .ok (.istore_n 2, 1) := by decide +kernel
theorem dX4_lose_27 : decode cX4_lose 27 = .ok (.aload_n 0, 1) := by decide +kernel
theorem dX4_lose_28 : decode cX4_lose 28 = .ok (.getfield 13, 3) := by decide +kernel
theorem dX4_lose_31 : decode cX4_lose 31 = .ok (.iload_n 1, 1) := by decide +kernel
theorem dX4_lose_32 : decode cX4_lose 32 = .ok (.aaload, 1) := by decide +kernel
theorem dX4_lose_33 : decode cX4_lose 33 = .ok (.bipush (-9), 2) := by decide +kernel
theorem dX4_lose_35 : decode cX4_lose 35 = .ok (.putfield 139, 3) := by decide +kernel
theorem dX4_lose_38 : decode cX4_lose 38 = .ok (.iload_n 2, 1) := by decide +kernel
theorem dX4_lose_39 : decode cX4_lose 39 = .ok (.ireturn, 1) := by decide +kernel
set_option maxRecDepth 20000 in
theorem S_X4_lose_0 {g : GG} {d : Nat} {F : Int32 → St → Prop} (a1 : Int32) (σ : St) (h : (ME g d M_X4_isSheet [vI a1] σ (qI (fun r1 σ2 => ((¬ r1 = 0 → (vp_in a1 4 ∧ (ME g d M_X3_isNothing [vR (2 + a1.toNatClampNeg)] σ2 (qI (fun r5 σ6 => ((r5 = 0 → F 1 (sU σ6 (2 + a1.toNatClampNeg) 2 (-9))) ∧ (¬ r5 = 0 → F 0 (sU σ6 (2 + a1.toNatClampNeg) 2 (-9))))))))) ∧ (r1 = 0 → F (-1) σ2)))))) : VM g (d + 1) M_X4_lose (qI F) 0 [(0, vR 0), (1, vI a1)] [] σ := by
  refine VE_iload_n 1 dX4_lose_0 (k := ?_)
  refine VE_cSi [vI a1] dX4_lose_1 ml_X4_132 h (fun r1 σ2 h3 => ?_) (rok_D d)
  refine VE_if_ne 9 dX4_lose_4 (fun c4 => ?_) (fun c4 => ?_)
  · refine VE_aload_n 0 dX4_lose_9 (k := ?_)
    refine VE_getR 1 dX4_lose_10 fl_X4_13 ?_
    refine VE_iload_n 1 dX4_lose_13 (k := ?_)
    refine VE_aald dX4_lose_14 (h3.1 c4).1 ?_
    refine VE_cVi [] dX4_lose_15 ml_X4_135 (h3.1 c4).2 (fun r5 σ6 h7 => ?_) (rok_D d) (hj := sh_ocl (vin_lt (h3.1 c4).1))
    refine VE_if_eq 25 dX4_lose_18 (fun c8 => ?_) (fun c8 => ?_)
    · refine VE_iconst 1 dX4_lose_25 (k := ?_)
      refine VE_istore_n (ls' := [(2, vI 1), (0, vR 0), (1, vI a1)]) dX4_lose_26 ?_
      refine VE_aload_n 1 dX4_lose_27 (k := ?_)
      refine VE_getR 1 dX4_lose_28 fl_X4_13 ?_
      refine VE_iload_n 2 dX4_lose_31 (k := ?_)
      refine VE_aald dX4_lose_32 (h3.1 c4).1 ?_
      refine VE_bipush (-9) dX4_lose_33 (k := ?_)
      refine VE_put dX4_lose_35 fl_X4_139 ?_ (sh_f2 (vin_lt (h3.1 c4).1))
      refine VE_iload_n 0 dX4_lose_38 (k := ?_)
      exact VM_iret dX4_lose_39 (h7.1 c8)
    · refine VE_iconst 0 dX4_lose_21 (k := ?_)
      refine VE_goto 26 dX4_lose_22 ?_
      refine VE_istore_n (ls' := [(2, vI 0), (0, vR 0), (1, vI a1)]) dX4_lose_26 ?_
      refine VE_aload_n 1 dX4_lose_27 (k := ?_)
      refine VE_getR 1 dX4_lose_28 fl_X4_13 ?_
      refine VE_iload_n 2 dX4_lose_31 (k := ?_)
      refine VE_aald dX4_lose_32 (h3.1 c4).1 ?_
      refine VE_bipush (-9) dX4_lose_33 (k := ?_)
      refine VE_put dX4_lose_35 fl_X4_139 ?_ (sh_f2 (vin_lt (h3.1 c4).1))
      refine VE_iload_n 0 dX4_lose_38 (k := ?_)
      exact VM_iret dX4_lose_39 (h7.2 c8)
  · refine VE_iconst (-1) dX4_lose_7 (k := ?_)
    exact VM_iret dX4_lose_8 (h3.2 c4)
theorem dX4_put_0 : decode cX4_put 0 = .ok (.aload_n 0, 1) := by decide +kernel
theorem dX4_put_1 : decode cX4_put 1 = .ok (.aload_n 0, 1) := by decide +kernel
theorem dX4_put_2 : decode cX4_put 2 = .ok (.iload_n 1, 1) := by decide +kernel
theorem dX4_put_3 : decode cX4_put 3 = .ok (.iload_n 2, 1) := by decide +kernel
theorem dX4_put_4 : decode cX4_put 4 = .ok (.invokevirtual 142, 3) := by decide +kernel
theorem dX4_put_7 : decode cX4_put 7 = .ok (.invokevirtual 47, 3) := by decide +kernel
theorem dX4_put_10 : decode cX4_put 10 = .ok (.istore 4, 2) := by decide +kernel
theorem dX4_put_12 : decode cX4_put 12 = .ok (.iload 4, 2) := by decide +kernel
theorem dX4_put_14 : decode cX4_put 14 = .ok (.ifCond .eq 6, 3) := by decide +kernel
theorem dX4_put_17 : decode cX4_put 17 = .ok (.iload 4, 2) := by decide +kernel
theorem dX4_put_19 : decode cX4_put 19 = .ok (.ireturn, 1) := by decide +kernel
theorem dX4_put_20 : decode cX4_put 20 = .ok (.aload_n 0, 1) := by decide +kernel
theorem dX4_put_21 : decode cX4_put 21 = .ok (.getfield 13, 3) := by decide +kernel
theorem dX4_put_24 : decode cX4_put 24 = .ok (.iload_n 1, 1) := by decide +kernel
theorem dX4_put_25 : decode cX4_put 25 = .ok (.aaload, 1) := by decide +kernel
theorem dX4_put_26 : decode cX4_put 26 = .ok (.getfield 145, 3) := by decide +kernel
theorem dX4_put_29 : decode cX4_put 29 = .ok (.iload_n 2, 1) := by decide +kernel
theorem dX4_put_30 : decode cX4_put 30 = .ok (.iload_n 3, 1) := by decide +kernel
theorem dX4_put_31 : decode cX4_put 31 = .ok (.aload_n 0, 1) := by decide +kernel
theorem dX4_put_32 : decode cX4_put 32 = .ok (.getfield 13, 3) := by decide +kernel
theorem dX4_put_35 : decode cX4_put 35 = .ok (.iload_n 1, 1) := by decide +kernel
theorem dX4_put_36 : decode cX4_put 36 = .ok (.aaload, 1) := by decide +kernel
theorem dX4_put_37 : decode cX4_put 37 = .ok (.getfield 148, 3) := by decide +kernel
theorem dX4_put_40 : decode cX4_put 40 = .ok (.invokestatic 151, 3) := by decide +kernel
theorem dX4_put_43 : decode cX4_put 43 = .ok (.iastore, 1) := by decide +kernel
theorem dX4_put_44 : decode cX4_put 44 = .ok (.iconst 1, 1) := by decide +kernel
theorem dX4_put_45 : decode cX4_put 45 = .ok (.ireturn, 1) := by decide +kernel
set_option maxRecDepth 20000 in
theorem S_X4_put_0 {g : GG} {d : Nat} {F : Int32 → St → Prop} (a1 : Int32) (a2 : Int32) (a3 : Int32) (σ : St) (h : (ME g d M_X4_troubleOfPut [vR 0, vI a1, vI a2] σ (qI (fun r1 σ2 => (ME g d M_X4_noted [vR 0, vI r1] σ2 (qI (fun r4 σ5 => ((r4 = 0 → (vp_in a1 4 ∧ (ME g d M_X4_cut [vI a3, vI (σ5 (2 + a1.toNatClampNeg) 1)] σ5 (qI (fun r8 σ9 => (vp_in a2 60 ∧ F 1 (sU σ9 (6 + a1.toNatClampNeg) a2.toNatClampNeg r8))))))) ∧ (¬ r4 = 0 → F r4 σ5))))))))) : VM g (d + 1) M_X4_put (qI F) 0 [(0, vR 0), (1, vI a1), (2, vI a2), (3, vI a3)] [] σ := by
  refine VE_aload_n 0 dX4_put_0 (k := ?_)
  refine VE_aload_n 0 dX4_put_1 (k := ?_)
  refine VE_iload_n 1 dX4_put_2 (k := ?_)
  refine VE_iload_n 2 dX4_put_3 (k := ?_)
  refine VE_cVi [vI a1, vI a2] dX4_put_4 ml_X4_142 h (fun r1 σ2 h3 => ?_) (rok_D d)
  refine VE_cVi [vI r1] dX4_put_7 ml_X4_47 h3 (fun r4 σ5 h6 => ?_) (rok_D d)
  refine VE_istore (ls' := [(4, vI r4), (0, vR 0), (1, vI a1), (2, vI a2), (3, vI a3)]) dX4_put_10 ?_
  refine VE_iload 0 dX4_put_12 (k := ?_)
  refine VE_if_eq 20 dX4_put_14 (fun c7 => ?_) (fun c7 => ?_)
  · refine VE_aload_n 1 dX4_put_20 (k := ?_)
    refine VE_getR 1 dX4_put_21 fl_X4_13 ?_
    refine VE_iload_n 2 dX4_put_24 (k := ?_)
    refine VE_aald dX4_put_25 (h6.1 c7).1 ?_
    refine VE_getR (6 + a1.toNatClampNeg) dX4_put_26 fl_X4_145 ?_ (sh_f0 (vin_lt (h6.1 c7).1))
    refine VE_iload_n 3 dX4_put_29 (k := ?_)
    refine VE_iload_n 4 dX4_put_30 (k := ?_)
    refine VE_aload_n 1 dX4_put_31 (k := ?_)
    refine VE_getR 1 dX4_put_32 fl_X4_13 ?_
    refine VE_iload_n 2 dX4_put_35 (k := ?_)
    refine VE_aald dX4_put_36 (h6.1 c7).1 ?_
    refine VE_getI dX4_put_37 fl_X4_148 ?_ (sh_f1 (vin_lt (h6.1 c7).1))
    refine VE_cSi [vI a3, vI (σ5 (2 + a1.toNatClampNeg) 1)] dX4_put_40 ml_X4_151 (h6.1 c7).2 (fun r8 σ9 h10 => ?_) (rok_D d)
    refine VE_iast dX4_put_43 (sh_in (vin_lt (h6.1 c7).1) h10.1) ?_ (sh_A (vin_lt (h6.1 c7).1))
    refine VE_iconst 1 dX4_put_44 (k := ?_)
    exact VM_iret dX4_put_45 h10.2
  · refine VE_iload 0 dX4_put_17 (k := ?_)
    exact VM_iret dX4_put_19 (h6.2 c7)
theorem dX4_cell_0 : decode cX4_cell 0 = .ok (.aload_n 0, 1) := by decide +kernel
theorem dX4_cell_1 : decode cX4_cell 1 = .ok (.aload_n 0, 1) := by decide +kernel
theorem dX4_cell_2 : decode cX4_cell 2 = .ok (.iload_n 1, 1) := by decide +kernel
theorem dX4_cell_3 : decode cX4_cell 3 = .ok (.iload_n 3, 1) := by decide +kernel
theorem dX4_cell_4 : decode cX4_cell 4 = .ok (.iload_n 2, 1) := by decide +kernel
theorem dX4_cell_5 : decode cX4_cell 5 = .ok (.iconst 1, 1) := by decide +kernel
theorem dX4_cell_6 : decode cX4_cell 6 = .ok (.invokevirtual 43, 3) := by decide +kernel
theorem dX4_cell_9 : decode cX4_cell 9 = .ok (.invokevirtual 47, 3) := by decide +kernel
theorem dX4_cell_12 : decode cX4_cell 12 = .ok (.istore 4, 2) := by decide +kernel
theorem dX4_cell_14 : decode cX4_cell 14 = .ok (.iload 4, 2) := by decide +kernel
theorem dX4_cell_16 : decode cX4_cell 16 = .ok (.ifCond .eq 9, 3) := by decide +kernel
theorem dX4_cell_19 : decode cX4_cell 19 = .ok (.ldc2_w 116, 3) := by decide +kernel
theorem dX4_cell_22 : decode cX4_cell 22 = .ok (.goto 15, 3) := by decide +kernel
theorem dX4_cell_25 : decode cX4_cell 25 = .ok (.aload_n 0, 1) := by decide +kernel
theorem dX4_cell_26 : decode cX4_cell 26 = .ok (.getfield 13, 3) := by decide +kernel
theorem dX4_cell_29 : decode cX4_cell 29 = .ok (.iload_n 1, 1) := by decide +kernel
theorem dX4_cell_30 : decode cX4_cell 30 = .ok (.aaload, 1) := by decide +kernel
theorem dX4_cell_31 : decode cX4_cell 31 = .ok (.getfield 145, 3) := by decide +kernel
theorem dX4_cell_34 : decode cX4_cell 34 = .ok (.iload_n 2, 1) := by decide +kernel
theorem dX4_cell_35 : decode cX4_cell 35 = .ok (.iaload, 1) := by decide +kernel
theorem dX4_cell_36 : decode cX4_cell 36 = .ok (.i2l, 1) := by decide +kernel
theorem dX4_cell_37 : decode cX4_cell 37 = .ok (.lreturn, 1) := by decide +kernel
set_option maxRecDepth 20000 in
theorem S_X4_cell_0 {g : GG} {d : Nat} {F : Int64 → St → Prop} (a1 : Int32) (a2 : Int32) (a3 : Int32) (σ : St) (h : (ME g d M_X4_troubleOfCells [vR 0, vI a1, vI a3, vI a2, vI 1] σ (qI (fun r1 σ2 => (ME g d M_X4_noted [vR 0, vI r1] σ2 (qI (fun r4 σ5 => ((r4 = 0 → (vp_in a1 4 ∧ (vp_in a2 60 ∧ F ((σ5 (6 + a1.toNatClampNeg) a2.toNatClampNeg).toInt64) σ5))) ∧ (¬ r4 = 0 → F (-9223372036854775808) σ5))))))))) : VM g (d + 1) M_X4_cell (qL F) 0 [(0, vR 0), (1, vI a1), (2, vI a2), (3, vI a3)] [] σ := by
  refine VE_aload_n 0 dX4_cell_0 (k := ?_)
  refine VE_aload_n 0 dX4_cell_1 (k := ?_)
  refine VE_iload_n 1 dX4_cell_2 (k := ?_)
  refine VE_iload_n 3 dX4_cell_3 (k := ?_)
  refine VE_iload_n 2 dX4_cell_4 (k := ?_)
  refine VE_iconst 1 dX4_cell_5 (k := ?_)
  refine VE_cVi [vI a1, vI a3, vI a2, vI 1] dX4_cell_6 ml_X4_43 h (fun r1 σ2 h3 => ?_) (rok_D d)
  refine VE_cVi [vI r1] dX4_cell_9 ml_X4_47 h3 (fun r4 σ5 h6 => ?_) (rok_D d)
  refine VE_istore (ls' := [(4, vI r4), (0, vR 0), (1, vI a1), (2, vI a2), (3, vI a3)]) dX4_cell_12 ?_
  refine VE_iload 0 dX4_cell_14 (k := ?_)
  refine VE_if_eq 25 dX4_cell_16 (fun c7 => ?_) (fun c7 => ?_)
  · refine VE_aload_n 1 dX4_cell_25 (k := ?_)
    refine VE_getR 1 dX4_cell_26 fl_X4_13 ?_
    refine VE_iload_n 2 dX4_cell_29 (k := ?_)
    refine VE_aald dX4_cell_30 (h6.1 c7).1 ?_
    refine VE_getR (6 + a1.toNatClampNeg) dX4_cell_31 fl_X4_145 ?_ (sh_f0 (vin_lt (h6.1 c7).1))
    refine VE_iload_n 3 dX4_cell_34 (k := ?_)
    refine VE_iald dX4_cell_35 (sh_in (vin_lt (h6.1 c7).1) (h6.1 c7).2.1) ?_ (sh_A (vin_lt (h6.1 c7).1))
    refine VE_i2l dX4_cell_36 ?_
    exact VM_lret dX4_cell_37 (h6.1 c7).2.2
  · refine VE_ldc2 (-9223372036854775808) 361 dX4_cell_19 ⟨by decide +kernel, rfl⟩ ?_
    refine VE_goto 37 dX4_cell_22 ?_
    exact VM_lret dX4_cell_37 (h6.2 c7)
theorem dX4_copy_0 : decode cX4_copy 0 = .ok (.aload_n 0, 1) := by decide +kernel
theorem dX4_copy_1 : decode cX4_copy 1 = .ok (.aload_n 0, 1) := by decide +kernel
theorem dX4_copy_2 : decode cX4_copy 2 = .ok (.iload_n 1, 1) := by decide +kernel
theorem dX4_copy_3 : decode cX4_copy 3 = .ok (.iload_n 2, 1) := by decide +kernel
theorem dX4_copy_4 : decode cX4_copy 4 = .ok (.iload_n 3, 1) := by decide +kernel
theorem dX4_copy_5 : decode cX4_copy 5 = .ok (.iload 4, 2) := by decide +kernel
theorem dX4_copy_7 : decode cX4_copy 7 = .ok (.iload 5, 2) := by decide +kernel
theorem dX4_copy_9 : decode cX4_copy 9 = .ok (.invokevirtual 154, 3) := by decide +kernel
theorem dX4_copy_12 : decode cX4_copy 12 = .ok (.invokevirtual 47, 3) := by decide +kernel
theorem dX4_copy_15 : decode cX4_copy 15 = .ok (.istore 6, 2) := by decide +kernel
theorem dX4_copy_17 : decode cX4_copy 17 = .ok (.iload 6, 2) := by decide +kernel
theorem dX4_copy_19 : decode cX4_copy 19 = .ok (.ifCond .eq 6, 3) := by decide +kernel
theorem dX4_copy_22 : decode cX4_copy 22 = .ok (.iload 6, 2) := by decide +kernel
theorem dX4_copy_24 : decode cX4_copy 24 = .ok (.ireturn, 1) := by decide +kernel
theorem dX4_copy_25 : decode cX4_copy 25 = .ok (.aload_n 0, 1) := by decide +kernel
theorem dX4_copy_26 : decode cX4_copy 26 = .ok (.getfield 13, 3) := by decide +kernel
theorem dX4_copy_29 : decode cX4_copy 29 = .ok (.iload_n 1, 1) := by decide +kernel
theorem dX4_copy_30 : decode cX4_copy 30 = .ok (.aaload, 1) := by decide +kernel
theorem dX4_copy_31 : decode cX4_copy 31 = .ok (.getfield 145, 3) := by decide +kernel
theorem dX4_copy_34 : decode cX4_copy 34 = .ok (.iload_n 2, 1) := by decide +kernel
theorem dX4_copy_35 : decode cX4_copy 35 = .ok (.aload_n 0, 1) := by decide +kernel
theorem dX4_copy_36 : decode cX4_copy 36 = .ok (.getfield 13, 3) := by decide +kernel
theorem dX4_copy_39 : decode cX4_copy 39 = .ok (.iload_n 3, 1) := by decide +kernel
theorem dX4_copy_40 : decode cX4_copy 40 = .ok (.aaload, 1) := by decide +kernel
theorem dX4_copy_41 : decode cX4_copy 41 = .ok (.getfield 145, 3) := by decide +kernel
theorem dX4_copy_44 : decode cX4_copy 44 = .ok (.iload 4, 2) := by decide +kernel
theorem dX4_copy_46 : decode cX4_copy 46 = .ok (.iload 5, 2) := by decide +kernel
theorem dX4_copy_48 : decode cX4_copy 48 = .ok (.invokestatic 157, 3) := by decide +kernel
theorem dX4_copy_51 : decode cX4_copy 51 = .ok (.iload 5, 2) := by decide +kernel
theorem dX4_copy_53 : decode cX4_copy 53 = .ok (.ireturn, 1) := by decide +kernel
set_option maxRecDepth 20000 in
theorem S_X4_copy_0 {g : GG} {d : Nat} {F : Int32 → St → Prop} (a1 : Int32) (a2 : Int32) (a3 : Int32) (a4 : Int32) (a5 : Int32) (σ : St) (h : (ME g d M_X4_troubleOfCopy [vR 0, vI a1, vI a2, vI a3, vI a4, vI a5] σ (qI (fun r1 σ2 => (ME g d M_X4_noted [vR 0, vI r1] σ2 (qI (fun r4 σ5 => ((r4 = 0 → (vp_in a1 4 ∧ (vp_in a3 4 ∧ (¬ a2 < 0 ∧ ¬ a4 < 0 ∧ ¬ a5 < 0 ∧ a2.toNatClampNeg + a5.toNatClampNeg ≤ 60 ∧ a4.toNatClampNeg + a5.toNatClampNeg ≤ 60 ∧ F a5 ((fun a => if a = 6 + a3.toNatClampNeg then va_cpy (σ5 (6 + a1.toNatClampNeg)) (σ5 (6 + a3.toNatClampNeg)) a2.toNatClampNeg a4.toNatClampNeg a5.toNatClampNeg else σ5 a)))))) ∧ (¬ r4 = 0 → F r4 σ5))))))))) : VM g (d + 1) M_X4_copy (qI F) 0 [(0, vR 0), (1, vI a1), (2, vI a2), (3, vI a3), (4, vI a4), (5, vI a5)] [] σ := by
  refine VE_aload_n 0 dX4_copy_0 (k := ?_)
  refine VE_aload_n 0 dX4_copy_1 (k := ?_)
  refine VE_iload_n 1 dX4_copy_2 (k := ?_)
  refine VE_iload_n 2 dX4_copy_3 (k := ?_)
  refine VE_iload_n 3 dX4_copy_4 (k := ?_)
  refine VE_iload 4 dX4_copy_5 (k := ?_)
  refine VE_iload 5 dX4_copy_7 (k := ?_)
  refine VE_cVi [vI a1, vI a2, vI a3, vI a4, vI a5] dX4_copy_9 ml_X4_154 h (fun r1 σ2 h3 => ?_) (rok_D d)
  refine VE_cVi [vI r1] dX4_copy_12 ml_X4_47 h3 (fun r4 σ5 h6 => ?_) (rok_D d)
  refine VE_istore (ls' := [(6, vI r4), (0, vR 0), (1, vI a1), (2, vI a2), (3, vI a3), (4, vI a4), (5, vI a5)]) dX4_copy_15 ?_
  refine VE_iload 0 dX4_copy_17 (k := ?_)
  refine VE_if_eq 25 dX4_copy_19 (fun c7 => ?_) (fun c7 => ?_)
  · refine VE_aload_n 1 dX4_copy_25 (k := ?_)
    refine VE_getR 1 dX4_copy_26 fl_X4_13 ?_
    refine VE_iload_n 2 dX4_copy_29 (k := ?_)
    refine VE_aald dX4_copy_30 (h6.1 c7).1 ?_
    refine VE_getR (6 + a1.toNatClampNeg) dX4_copy_31 fl_X4_145 ?_ (sh_f0 (vin_lt (h6.1 c7).1))
    refine VE_iload_n 3 dX4_copy_34 (k := ?_)
    refine VE_aload_n 1 dX4_copy_35 (k := ?_)
    refine VE_getR 1 dX4_copy_36 fl_X4_13 ?_
    refine VE_iload_n 4 dX4_copy_39 (k := ?_)
    refine VE_aald dX4_copy_40 (h6.1 c7).2.1 ?_
    refine VE_getR (6 + a3.toNatClampNeg) dX4_copy_41 fl_X4_145 ?_ (sh_f0 (vin_lt (h6.1 c7).2.1))
    refine VE_iload 5 dX4_copy_44 (k := ?_)
    refine VE_iload 6 dX4_copy_46 (k := ?_)
    refine VE_copy (i1 := 416) (i2 := 418) (i3 := 417) (i4 := 54) dX4_copy_48 ⟨by decide +kernel, rfl⟩ ⟨by decide +kernel, rfl⟩ ⟨by decide +kernel, rfl⟩ ⟨by decide +kernel, rfl⟩ (h6.1 c7).2.2.1 (h6.1 c7).2.2.2.1 (h6.1 c7).2.2.2.2.1 (by rw [sh_len (vin_lt (h6.1 c7).1)]; exact (h6.1 c7).2.2.2.2.2.1) (by rw [sh_len (vin_lt (h6.1 c7).2.1)]; exact (h6.1 c7).2.2.2.2.2.2.1) (sh_A (vin_lt (h6.1 c7).1)) (sh_A (vin_lt (h6.1 c7).2.1)) (rok1 d) rfl ?_
    refine VE_iload 6 dX4_copy_51 (k := ?_)
    exact VM_iret dX4_copy_53 (h6.1 c7).2.2.2.2.2.2.2
  · refine VE_iload 0 dX4_copy_22 (k := ?_)
    exact VM_iret dX4_copy_24 (h6.2 c7)
theorem dX4_tell_0 : decode cX4_tell 0 = .ok (.aload_n 0, 1) := by decide +kernel
theorem dX4_tell_1 : decode cX4_tell 1 = .ok (.getfield 21, 3) := by decide +kernel
theorem dX4_tell_4 : decode cX4_tell 4 = .ok (.iload_n 1, 1) := by decide +kernel
theorem dX4_tell_5 : decode cX4_tell 5 = .ok (.invokevirtual 64, 3) := by decide +kernel
theorem dX4_tell_8 : decode cX4_tell 8 = .ok (.ifCond .ne 5, 3) := by decide +kernel
theorem dX4_tell_11 : decode cX4_tell 11 = .ok (.iconst (-1), 1) := by decide +kernel
theorem dX4_tell_12 : decode cX4_tell 12 = .ok (.ireturn, 1) := by decide +kernel
theorem dX4_tell_13 : decode cX4_tell 13 = .ok (.aload_n 0, 1) := by decide +kernel
theorem dX4_tell_14 : decode cX4_tell 14 = .ok (.getfield 21, 3) := by decide +kernel
theorem dX4_tell_17 : decode cX4_tell 17 = .ok (.getfield 68, 3) := by decide +kernel
theorem dX4_tell_20 : decode cX4_tell 20 = .ok (.iload_n 1, 1) := by decide +kernel
theorem dX4_tell_21 : decode cX4_tell 21 = .ok (.iaload, 1) := by decide +kernel
theorem dX4_tell_22 : decode cX4_tell 22 = .ok (.lookupswitch 38 #[(1, 32), (2, 26)], 26) := by decide +kernel
theorem dX4_tell_48 : decode cX4_tell 48 = .ok (.aload_n 0, 1) := by decide +kernel
theorem dX4_tell_49 : decode cX4_tell 49 = .ok (.iload_n 1, 1) := by decide +kernel
theorem dX4_tell_50 : decode cX4_tell 50 = .ok (.invokevirtual 163, 3) := by decide +kernel
theorem dX4_tell_53 : decode cX4_tell 53 = .ok (.ireturn, 1) := by decide +kernel
theorem dX4_tell_54 : decode cX4_tell 54 = .ok (.aload_n 0, 1) := by decide +kernel
theorem dX4_tell_55 : decode cX4_tell 55 = .ok (.iload_n 1, 1) := by decide +kernel
theorem dX4_tell_56 : decode cX4_tell 56 = .ok (.invokevirtual 166, 3) := by decide +kernel
theorem dX4_tell_59 : decode cX4_tell 59 = .ok (.ireturn, 1) := by decide +kernel
theorem dX4_tell_60 : decode cX4_tell 60 = .ok (.aload_n 0, 1) := by decide +kernel
theorem dX4_tell_61 : decode cX4_tell 61 = .ok (.iload_n 1, 1) := by decide +kernel
theorem dX4_tell_62 : decode cX4_tell 62 = .ok (.invokevirtual 169, 3) := by decide +kernel
theorem dX4_tell_65 : decode cX4_tell 65 = .ok (.ireturn, 1) := by decide +kernel
set_option maxRecDepth 20000 in
theorem S_X4_tell_0 {g : GG} {d : Nat} {F : Int32 → St → Prop} (a1 : Int32) (σ : St) (h : (ME g d M_X0_has [vR 10, vI a1] σ (qI (fun r1 σ2 => ((¬ r1 = 0 → (vp_in a1 5 ∧ (((σ2 11 a1.toNatClampNeg) = 1 → (ME g d M_X4_lordsTelling [vR 0, vI a1] σ2 (qI (fun r7 σ8 => F r7 σ8)))) ∧ (¬ (σ2 11 a1.toNatClampNeg) = 1 → (((σ2 11 a1.toNatClampNeg) = 2 → (ME g d M_X4_spysTelling [vR 0, vI a1] σ2 (qI (fun r10 σ11 => F r10 σ11)))) ∧ (¬ (σ2 11 a1.toNatClampNeg) = 2 → (ME g d M_X4_headsTelling [vR 0, vI a1] σ2 (qI (fun r13 σ14 => F r13 σ14))))))))) ∧ (r1 = 0 → F (-1) σ2)))))) : VM g (d + 1) M_X4_tell (qI F) 0 [(0, vR 0), (1, vI a1)] [] σ := by
  refine VE_aload_n 0 dX4_tell_0 (k := ?_)
  refine VE_getR 10 dX4_tell_1 fl_X4_21 ?_
  refine VE_iload_n 1 dX4_tell_4 (k := ?_)
  refine VE_cVi [vI a1] dX4_tell_5 ml_X4_64 h (fun r1 σ2 h3 => ?_) (rok_D d)
  refine VE_if_ne 13 dX4_tell_8 (fun c4 => ?_) (fun c4 => ?_)
  · refine VE_aload_n 0 dX4_tell_13 (k := ?_)
    refine VE_getR 10 dX4_tell_14 fl_X4_21 ?_
    refine VE_getR 11 dX4_tell_17 fl_X4_68 ?_
    refine VE_iload_n 1 dX4_tell_20 (k := ?_)
    refine VE_iald dX4_tell_21 (h3.1 c4).1 ?_
    by_cases c5 : (σ2 11 a1.toNatClampNeg) = 1
    · refine VE_lookup (off := 32) 54 dX4_tell_22 (by decide) (by rw [c5]; first | done | rfl) ?_
      refine VE_aload_n 0 dX4_tell_54 (k := ?_)
      refine VE_iload_n 1 dX4_tell_55 (k := ?_)
      refine VE_cVi [vI a1] dX4_tell_56 ml_X4_166 ((h3.1 c4).2.1 c5) (fun r7 σ8 h9 => ?_) (rok_D d)
      exact VM_iret dX4_tell_59 h9
    · by_cases c6 : (σ2 11 a1.toNatClampNeg) = 2
      · refine VE_lookup (off := 26) 48 dX4_tell_22 (by decide) (by rw [c6]; first | done | rfl) ?_
        refine VE_aload_n 0 dX4_tell_48 (k := ?_)
        refine VE_iload_n 1 dX4_tell_49 (k := ?_)
        refine VE_cVi [vI a1] dX4_tell_50 ml_X4_163 (((h3.1 c4).2.2 c5).1 c6) (fun r10 σ11 h12 => ?_) (rok_D d)
        exact VM_iret dX4_tell_53 h12
      · refine VE_lookup (off := 38) 60 dX4_tell_22 (by decide) ((lv_osw c5 rfl).trans (lv_osw c6 rfl)) ?_
        refine VE_aload_n 0 dX4_tell_60 (k := ?_)
        refine VE_iload_n 1 dX4_tell_61 (k := ?_)
        refine VE_cVi [vI a1] dX4_tell_62 ml_X4_169 (((h3.1 c4).2.2 c5).2 c6) (fun r13 σ14 h15 => ?_) (rok_D d)
        exact VM_iret dX4_tell_65 h15
  · refine VE_iconst (-1) dX4_tell_11 (k := ?_)
    exact VM_iret dX4_tell_12 (h3.2 c4)
theorem dX4_greet_0 : decode cX4_greet 0 = .ok (.aload_n 0, 1) := by decide +kernel
theorem dX4_greet_1 : decode cX4_greet 1 = .ok (.getfield 21, 3) := by decide +kernel
theorem dX4_greet_4 : decode cX4_greet 4 = .ok (.iload_n 1, 1) := by decide +kernel
theorem dX4_greet_5 : decode cX4_greet 5 = .ok (.invokevirtual 64, 3) := by decide +kernel
theorem dX4_greet_8 : decode cX4_greet 8 = .ok (.ifCond .ne 5, 3) := by decide +kernel
theorem dX4_greet_11 : decode cX4_greet 11 = .ok (.iconst (-1), 1) := by decide +kernel
theorem dX4_greet_12 : decode cX4_greet 12 = .ok (.ireturn, 1) := by decide +kernel
theorem dX4_greet_13 : decode cX4_greet 13 = .ok (.aload_n 0, 1) := by decide +kernel
theorem dX4_greet_14 : decode cX4_greet 14 = .ok (.getfield 21, 3) := by decide +kernel
theorem dX4_greet_17 : decode cX4_greet 17 = .ok (.getfield 68, 3) := by decide +kernel
theorem dX4_greet_20 : decode cX4_greet 20 = .ok (.iload_n 1, 1) := by decide +kernel
theorem dX4_greet_21 : decode cX4_greet 21 = .ok (.iaload, 1) := by decide +kernel
theorem dX4_greet_22 : decode cX4_greet 22 = .ok (.iconst 2, 1) := by decide +kernel
theorem dX4_greet_23 : decode cX4_greet 23 = .ok (.if_icmp .ne 11, 3) := by decide +kernel
theorem dX4_greet_26 : decode cX4_greet 26 = .ok (.aload_n 0, 1) := by decide +kernel
theorem dX4_greet_27 : decode cX4_greet 27 = .ok (.iconst 5, 1) := by decide +kernel
theorem dX4_greet_28 : decode cX4_greet 28 = .ok (.invokevirtual 172, 3) := by decide +kernel
theorem dX4_greet_31 : decode cX4_greet 31 = .ok (.bipush 90, 2) := by decide +kernel
theorem dX4_greet_33 : decode cX4_greet 33 = .ok (.ireturn, 1) := by decide +kernel
theorem dX4_greet_34 : decode cX4_greet 34 = .ok (.aload_n 0, 1) := by decide +kernel
theorem dX4_greet_35 : decode cX4_greet 35 = .ok (.iconst 4, 1) := by decide +kernel
theorem dX4_greet_36 : decode cX4_greet 36 = .ok (.invokevirtual 172, 3) := by decide +kernel
theorem dX4_greet_39 : decode cX4_greet 39 = .ok (.iload_n 1, 1) := by decide +kernel
theorem dX4_greet_40 : decode cX4_greet 40 = .ok (.ireturn, 1) := by decide +kernel
set_option maxRecDepth 20000 in
theorem S_X4_greet_0 {g : GG} {d : Nat} {F : Int32 → St → Prop} (a1 : Int32) (σ : St) (h : (ME g d M_X0_has [vR 10, vI a1] σ (qI (fun r1 σ2 => ((¬ r1 = 0 → (vp_in a1 5 ∧ ((¬ (σ2 11 a1.toNatClampNeg) = 2 → (ME g d M_X4_leaveTrace [vR 0, vI 4] σ2 (qV (fun σ7 => F a1 σ7)))) ∧ ((σ2 11 a1.toNatClampNeg) = 2 → (ME g d M_X4_leaveTrace [vR 0, vI 5] σ2 (qV (fun σ10 => F 90 σ10))))))) ∧ (r1 = 0 → F (-1) σ2)))))) : VM g (d + 1) M_X4_greet (qI F) 0 [(0, vR 0), (1, vI a1)] [] σ := by
  refine VE_aload_n 0 dX4_greet_0 (k := ?_)
  refine VE_getR 10 dX4_greet_1 fl_X4_21 ?_
  refine VE_iload_n 1 dX4_greet_4 (k := ?_)
  refine VE_cVi [vI a1] dX4_greet_5 ml_X4_64 h (fun r1 σ2 h3 => ?_) (rok_D d)
  refine VE_if_ne 13 dX4_greet_8 (fun c4 => ?_) (fun c4 => ?_)
  · refine VE_aload_n 0 dX4_greet_13 (k := ?_)
    refine VE_getR 10 dX4_greet_14 fl_X4_21 ?_
    refine VE_getR 11 dX4_greet_17 fl_X4_68 ?_
    refine VE_iload_n 1 dX4_greet_20 (k := ?_)
    refine VE_iald dX4_greet_21 (h3.1 c4).1 ?_
    refine VE_iconst 2 dX4_greet_22 (k := ?_)
    refine VE_icmp_ne 34 dX4_greet_23 (fun c5 => ?_) (fun c5 => ?_)
    · refine VE_aload_n 0 dX4_greet_34 (k := ?_)
      refine VE_iconst 4 dX4_greet_35 (k := ?_)
      refine VE_cVv [vI 4] dX4_greet_36 ml_X4_172 ((h3.1 c4).2.1 c5) (fun σ7 h8 => ?_) (rok_D d)
      refine VE_iload_n 1 dX4_greet_39 (k := ?_)
      exact VM_iret dX4_greet_40 h8
    · refine VE_aload_n 0 dX4_greet_26 (k := ?_)
      refine VE_iconst 5 dX4_greet_27 (k := ?_)
      refine VE_cVv [vI 5] dX4_greet_28 ml_X4_172 ((h3.1 c4).2.2 c5) (fun σ10 h11 => ?_) (rok_D d)
      refine VE_bipush 90 dX4_greet_31 (k := ?_)
      exact VM_iret dX4_greet_33 h11
  · refine VE_iconst (-1) dX4_greet_11 (k := ?_)
    exact VM_iret dX4_greet_12 (h3.2 c4)
theorem dX4_as_0 : decode cX4_as 0 = .ok (.aload_n 0, 1) := by decide +kernel
theorem dX4_as_1 : decode cX4_as 1 = .ok (.aload_n 0, 1) := by decide +kernel
theorem dX4_as_2 : decode cX4_as 2 = .ok (.iload_n 1, 1) := by decide +kernel
theorem dX4_as_3 : decode cX4_as 3 = .ok (.iload_n 2, 1) := by decide +kernel
theorem dX4_as_4 : decode cX4_as 4 = .ok (.invokevirtual 176, 3) := by decide +kernel
theorem dX4_as_7 : decode cX4_as 7 = .ok (.invokevirtual 47, 3) := by decide +kernel
theorem dX4_as_10 : decode cX4_as 10 = .ok (.ireturn, 1) := by decide +kernel
set_option maxRecDepth 20000 in
theorem S_X4_as_0 {g : GG} {d : Nat} {F : Int32 → St → Prop} (a1 : Int32) (a2 : Int32) (σ : St) (h : (ME g d M_X4_answerOfKind [vR 0, vI a1, vI a2] σ (qI (fun r1 σ2 => (ME g d M_X4_noted [vR 0, vI r1] σ2 (qI (fun r4 σ5 => F r4 σ5))))))) : VM g (d + 1) M_X4_as (qI F) 0 [(0, vR 0), (1, vI a1), (2, vI a2)] [] σ := by
  refine VE_aload_n 0 dX4_as_0 (k := ?_)
  refine VE_aload_n 0 dX4_as_1 (k := ?_)
  refine VE_iload_n 1 dX4_as_2 (k := ?_)
  refine VE_iload_n 2 dX4_as_3 (k := ?_)
  refine VE_cVi [vI a1, vI a2] dX4_as_4 ml_X4_176 h (fun r1 σ2 h3 => ?_) (rok_D d)
  refine VE_cVi [vI r1] dX4_as_7 ml_X4_47 h3 (fun r4 σ5 h6 => ?_) (rok_D d)
  exact VM_iret dX4_as_10 h6
theorem dX4_trace_0 : decode cX4_trace 0 = .ok (.aload_n 0, 1) := by decide +kernel
theorem dX4_trace_1 : decode cX4_trace 1 = .ok (.getfield 179, 3) := by decide +kernel
theorem dX4_trace_4 : decode cX4_trace 4 = .ok (.ireturn, 1) := by decide +kernel
set_option maxRecDepth 20000 in
theorem S_X4_trace_0 {g : GG} {d : Nat} {F : Int32 → St → Prop}  (σ : St) (h : F (σ 0 6) σ) : VM g d M_X4_trace (qI F) 0 [(0, vR 0)] [] σ := by
  refine VE_aload_n 0 dX4_trace_0 (k := ?_)
  refine VE_getI dX4_trace_1 fl_X4_179 ?_
  exact VM_iret dX4_trace_4 h
theorem dX4_fault_0 : decode cX4_fault 0 = .ok (.aload_n 0, 1) := by decide +kernel
theorem dX4_fault_1 : decode cX4_fault 1 = .ok (.getfield 182, 3) := by decide +kernel
theorem dX4_fault_4 : decode cX4_fault 4 = .ok (.ireturn, 1) := by decide +kernel
set_option maxRecDepth 20000 in
theorem S_X4_fault_0 {g : GG} {d : Nat} {F : Int32 → St → Prop}  (σ : St) (h : F (σ 0 7) σ) : VM g d M_X4_fault (qI F) 0 [(0, vR 0)] [] σ := by
  refine VE_aload_n 0 dX4_fault_0 (k := ?_)
  refine VE_getI dX4_fault_1 fl_X4_182 ?_
  exact VM_iret dX4_fault_4 h
theorem dX4_many_0 : decode cX4_many 0 = .ok (.iload_n 1, 1) := by decide +kernel
theorem dX4_many_1 : decode cX4_many 1 = .ok (.lookupswitch 43 #[(0, 27), (1, 35)], 27) := by decide +kernel
theorem dX4_many_28 : decode cX4_many 28 = .ok (.aload_n 0, 1) := by decide +kernel
theorem dX4_many_29 : decode cX4_many 29 = .ok (.getfield 21, 3) := by decide +kernel
theorem dX4_many_32 : decode cX4_many 32 = .ok (.getfield 63, 3) := by decide +kernel
theorem dX4_many_35 : decode cX4_many 35 = .ok (.ireturn, 1) := by decide +kernel
theorem dX4_many_36 : decode cX4_many 36 = .ok (.aload_n 0, 1) := by decide +kernel
theorem dX4_many_37 : decode cX4_many 37 = .ok (.getfield 35, 3) := by decide +kernel
theorem dX4_many_40 : decode cX4_many 40 = .ok (.getfield 59, 3) := by decide +kernel
theorem dX4_many_43 : decode cX4_many 43 = .ok (.ireturn, 1) := by decide +kernel
theorem dX4_many_44 : decode cX4_many 44 = .ok (.bipush (-2), 2) := by decide +kernel
theorem dX4_many_46 : decode cX4_many 46 = .ok (.ireturn, 1) := by decide +kernel
set_option maxRecDepth 20000 in
theorem S_X4_many_0 {g : GG} {d : Nat} {F : Int32 → St → Prop} (a1 : Int32) (σ : St) (h : ((a1 = 0 → F (σ 10 3) σ) ∧ (¬ a1 = 0 → ((a1 = 1 → F (σ 18 3) σ) ∧ (¬ a1 = 1 → F (-2) σ))))) : VM g d M_X4_many (qI F) 0 [(0, vR 0), (1, vI a1)] [] σ := by
  refine VE_iload_n 1 dX4_many_0 (k := ?_)
  by_cases c1 : a1 = 0
  · refine VE_lookup (off := 27) 28 dX4_many_1 (by decide) (by rw [c1]; first | done | rfl) ?_
    refine VE_aload_n 0 dX4_many_28 (k := ?_)
    refine VE_getR 10 dX4_many_29 fl_X4_21 ?_
    refine VE_getI dX4_many_32 fl_X4_63 ?_
    exact VM_iret dX4_many_35 (h.1 c1)
  · by_cases c2 : a1 = 1
    · refine VE_lookup (off := 35) 36 dX4_many_1 (by decide) (by rw [c2]; first | done | rfl) ?_
      refine VE_aload_n 0 dX4_many_36 (k := ?_)
      refine VE_getR 18 dX4_many_37 fl_X4_35 ?_
      refine VE_getI dX4_many_40 fl_X4_59 ?_
      exact VM_iret dX4_many_43 ((h.2 c1).1 c2)
    · refine VE_lookup (off := 43) 44 dX4_many_1 (by decide) ((lv_osw c1 rfl).trans (lv_osw c2 rfl)) ?_
      refine VE_bipush (-2) dX4_many_44 (k := ?_)
      exact VM_iret dX4_many_46 ((h.2 c1).2 c2)
theorem dX4_noted_0 : decode cX4_noted 0 = .ok (.aload_n 0, 1) := by decide +kernel
theorem dX4_noted_1 : decode cX4_noted 1 = .ok (.iload_n 1, 1) := by decide +kernel
theorem dX4_noted_2 : decode cX4_noted 2 = .ok (.bipush (-10), 2) := by decide +kernel
theorem dX4_noted_4 : decode cX4_noted 4 = .ok (.if_icmp .ge 10, 3) := by decide +kernel
theorem dX4_noted_7 : decode cX4_noted 7 = .ok (.bipush (-10), 2) := by decide +kernel
theorem dX4_noted_9 : decode cX4_noted 9 = .ok (.iload_n 1, 1) := by decide +kernel
theorem dX4_noted_10 : decode cX4_noted 10 = .ok (.isub, 1) := by decide +kernel
theorem dX4_noted_11 : decode cX4_noted 11 = .ok (.goto 4, 3) := by decide +kernel
theorem dX4_noted_14 : decode cX4_noted 14 = .ok (.iconst 0, 1) := by decide +kernel
theorem dX4_noted_15 : decode cX4_noted 15 = .ok (.putfield 182, 3) := by decide +kernel
theorem dX4_noted_18 : decode cX4_noted 18 = .ok (.iload_n 1, 1) := by decide +kernel
theorem dX4_noted_19 : decode cX4_noted 19 = .ok (.ireturn, 1) := by decide +kernel
set_option maxRecDepth 20000 in
theorem S_X4_noted_0 {g : GG} {d : Nat} {F : Int32 → St → Prop} (a1 : Int32) (σ : St) (h : (((-10) ≤ a1 → F a1 (sU σ 0 7 0)) ∧ (¬ (-10) ≤ a1 → F a1 (sU σ 0 7 ((-10) - a1))))) : VM g d M_X4_noted (qI F) 0 [(0, vR 0), (1, vI a1)] [] σ := by
  refine VE_aload_n 0 dX4_noted_0 (k := ?_)
  refine VE_iload_n 1 dX4_noted_1 (k := ?_)
  refine VE_bipush (-10) dX4_noted_2 (k := ?_)
  refine VE_icmp_ge 14 dX4_noted_4 (fun c1 => ?_) (fun c1 => ?_)
  · refine VE_iconst 0 dX4_noted_14 (k := ?_)
    refine VE_put dX4_noted_15 fl_X4_182 ?_
    refine VE_iload_n 1 dX4_noted_18 (k := ?_)
    exact VM_iret dX4_noted_19 (h.1 c1)
  · refine VE_bipush (-10) dX4_noted_7 (k := ?_)
    refine VE_iload_n 1 dX4_noted_9 (k := ?_)
    refine VE_isub dX4_noted_10 ?_
    refine VE_goto 15 dX4_noted_11 ?_
    refine VE_put dX4_noted_15 fl_X4_182 ?_
    refine VE_iload_n 1 dX4_noted_18 (k := ?_)
    exact VM_iret dX4_noted_19 (h.2 c1)
theorem dX4_troubleOfCells_0 : decode cX4_troubleOfCells 0 = .ok (.iload_n 1, 1) := by decide +kernel
theorem dX4_troubleOfCells_1 : decode cX4_troubleOfCells 1 = .ok (.invokestatic 132, 3) := by decide +kernel
theorem dX4_troubleOfCells_4 : decode cX4_troubleOfCells 4 = .ok (.ifCond .ne 5, 3) := by decide +kernel
theorem dX4_troubleOfCells_7 : decode cX4_troubleOfCells 7 = .ok (.iconst (-1), 1) := by decide +kernel
theorem dX4_troubleOfCells_8 : decode cX4_troubleOfCells 8 = .ok (.ireturn, 1) := by decide +kernel
theorem dX4_troubleOfCells_9 : decode cX4_troubleOfCells 9 = .ok (.iload_n 2, 1) := by decide +kernel
theorem dX4_troubleOfCells_10 : decode cX4_troubleOfCells 10 = .ok (.invokestatic 185, 3) := by decide +kernel
theorem dX4_troubleOfCells_13 : decode cX4_troubleOfCells 13 = .ok (.ifCond .ne 6, 3) := by decide +kernel
theorem dX4_troubleOfCells_16 : decode cX4_troubleOfCells 16 = .ok (.bipush (-2), 2) := by decide +kernel
theorem dX4_troubleOfCells_18 : decode cX4_troubleOfCells 18 = .ok (.ireturn, 1) := by decide +kernel
theorem dX4_troubleOfCells_19 : decode cX4_troubleOfCells 19 = .ok (.aload_n 0, 1) := by decide +kernel
theorem dX4_troubleOfCells_20 : decode cX4_troubleOfCells 20 = .ok (.getfield 13, 3) := by decide +kernel
theorem dX4_troubleOfCells_23 : decode cX4_troubleOfCells 23 = .ok (.iload_n 1, 1) := by decide +kernel
theorem dX4_troubleOfCells_24 : decode cX4_troubleOfCells 24 = .ok (.aaload, 1) := by decide +kernel
theorem dX4_troubleOfCells_25 : decode cX4_troubleOfCells 25 = .ok (.iload_n 2, 1) := by decide +kernel
theorem dX4_troubleOfCells_26 : decode cX4_troubleOfCells 26 = .ok (.iload_n 3, 1) := by decide +kernel
theorem dX4_troubleOfCells_27 : decode cX4_troubleOfCells 27 = .ok (.iload 4, 2) := by decide +kernel
theorem dX4_troubleOfCells_29 : decode cX4_troubleOfCells 29 = .ok (.invokevirtual 188, 3) := by decide +kernel
theorem dX4_troubleOfCells_32 : decode cX4_troubleOfCells 32 = .ok (.ireturn, 1) := by decide +kernel
set_option maxRecDepth 20000 in
theorem S_X4_troubleOfCells_0 {g : GG} {d : Nat} {F : Int32 → St → Prop} (a1 : Int32) (a2 : Int32) (a3 : Int32) (a4 : Int32) (σ : St) (h : (ME g d M_X4_isSheet [vI a1] σ (qI (fun r1 σ2 => ((¬ r1 = 0 → (ME g d M_X4_isLane [vI a2] σ2 (qI (fun r5 σ6 => ((¬ r5 = 0 → (vp_in a1 4 ∧ (ME g d M_X3_faultOfCells [vR (2 + a1.toNatClampNeg), vI a2, vI a3, vI a4] σ6 (qI (fun r9 σ10 => F r9 σ10))))) ∧ (r5 = 0 → F (-2) σ6)))))) ∧ (r1 = 0 → F (-1) σ2)))))) : VM g (d + 1) M_X4_troubleOfCells (qI F) 0 [(0, vR 0), (1, vI a1), (2, vI a2), (3, vI a3), (4, vI a4)] [] σ := by
  refine VE_iload_n 1 dX4_troubleOfCells_0 (k := ?_)
  refine VE_cSi [vI a1] dX4_troubleOfCells_1 ml_X4_132 h (fun r1 σ2 h3 => ?_) (rok_D d)
  refine VE_if_ne 9 dX4_troubleOfCells_4 (fun c4 => ?_) (fun c4 => ?_)
  · refine VE_iload_n 2 dX4_troubleOfCells_9 (k := ?_)
    refine VE_cSi [vI a2] dX4_troubleOfCells_10 ml_X4_185 (h3.1 c4) (fun r5 σ6 h7 => ?_) (rok_D d)
    refine VE_if_ne 19 dX4_troubleOfCells_13 (fun c8 => ?_) (fun c8 => ?_)
    · refine VE_aload_n 0 dX4_troubleOfCells_19 (k := ?_)
      refine VE_getR 1 dX4_troubleOfCells_20 fl_X4_13 ?_
      refine VE_iload_n 1 dX4_troubleOfCells_23 (k := ?_)
      refine VE_aald dX4_troubleOfCells_24 (h7.1 c8).1 ?_
      refine VE_iload_n 2 dX4_troubleOfCells_25 (k := ?_)
      refine VE_iload_n 3 dX4_troubleOfCells_26 (k := ?_)
      refine VE_iload 4 dX4_troubleOfCells_27 (k := ?_)
      refine VE_cVi [vI a2, vI a3, vI a4] dX4_troubleOfCells_29 ml_X4_188 (h7.1 c8).2 (fun r9 σ10 h11 => ?_) (rok_D d) (hj := sh_ocl (vin_lt (h7.1 c8).1))
      exact VM_iret dX4_troubleOfCells_32 h11
    · refine VE_bipush (-2) dX4_troubleOfCells_16 (k := ?_)
      exact VM_iret dX4_troubleOfCells_18 (h7.2 c8)
  · refine VE_iconst (-1) dX4_troubleOfCells_7 (k := ?_)
    exact VM_iret dX4_troubleOfCells_8 (h3.2 c4)
theorem dX4_troubleOfVisits_0 : decode cX4_troubleOfVisits 0 = .ok (.iload_n 1, 1) := by decide +kernel
theorem dX4_troubleOfVisits_1 : decode cX4_troubleOfVisits 1 = .ok (.invokestatic 132, 3) := by decide +kernel
theorem dX4_troubleOfVisits_4 : decode cX4_troubleOfVisits 4 = .ok (.ifCond .eq 23, 3) := by decide +kernel
theorem dX4_troubleOfVisits_7 : decode cX4_troubleOfVisits 7 = .ok (.iload 4, 2) := by decide +kernel
theorem dX4_troubleOfVisits_9 : decode cX4_troubleOfVisits 9 = .ok (.ifCond .lt 15, 3) := by decide +kernel
theorem dX4_troubleOfVisits_12 : decode cX4_troubleOfVisits 12 = .ok (.iload 4, 2) := by decide +kernel
theorem dX4_troubleOfVisits_14 : decode cX4_troubleOfVisits 14 = .ok (.bipush 20, 2) := by decide +kernel
theorem dX4_troubleOfVisits_16 : decode cX4_troubleOfVisits 16 = .ok (.if_icmp .gt 8, 3) := by decide +kernel
theorem dX4_troubleOfVisits_19 : decode cX4_troubleOfVisits 19 = .ok (.iload 5, 2) := by decide +kernel
theorem dX4_troubleOfVisits_21 : decode cX4_troubleOfVisits 21 = .ok (.ifCond .ne 6, 3) := by decide +kernel
theorem dX4_troubleOfVisits_24 : decode cX4_troubleOfVisits 24 = .ok (.bipush (-2), 2) := by decide +kernel
theorem dX4_troubleOfVisits_26 : decode cX4_troubleOfVisits 26 = .ok (.ireturn, 1) := by decide +kernel
theorem dX4_troubleOfVisits_27 : decode cX4_troubleOfVisits 27 = .ok (.aload_n 0, 1) := by decide +kernel
theorem dX4_troubleOfVisits_28 : decode cX4_troubleOfVisits 28 = .ok (.iload_n 1, 1) := by decide +kernel
theorem dX4_troubleOfVisits_29 : decode cX4_troubleOfVisits 29 = .ok (.iload_n 2, 1) := by decide +kernel
theorem dX4_troubleOfVisits_30 : decode cX4_troubleOfVisits 30 = .ok (.iload_n 3, 1) := by decide +kernel
theorem dX4_troubleOfVisits_31 : decode cX4_troubleOfVisits 31 = .ok (.iload 4, 2) := by decide +kernel
theorem dX4_troubleOfVisits_33 : decode cX4_troubleOfVisits 33 = .ok (.invokevirtual 43, 3) := by decide +kernel
theorem dX4_troubleOfVisits_36 : decode cX4_troubleOfVisits 36 = .ok (.istore 6, 2) := by decide +kernel
theorem dX4_troubleOfVisits_38 : decode cX4_troubleOfVisits 38 = .ok (.iload 6, 2) := by decide +kernel
theorem dX4_troubleOfVisits_40 : decode cX4_troubleOfVisits 40 = .ok (.ifCond .eq 6, 3) := by decide +kernel
theorem dX4_troubleOfVisits_43 : decode cX4_troubleOfVisits 43 = .ok (.iload 6, 2) := by decide +kernel
theorem dX4_troubleOfVisits_45 : decode cX4_troubleOfVisits 45 = .ok (.ireturn, 1) := by decide +kernel
theorem dX4_troubleOfVisits_46 : decode cX4_troubleOfVisits 46 = .ok (.aload_n 0, 1) := by decide +kernel
theorem dX4_troubleOfVisits_47 : decode cX4_troubleOfVisits 47 = .ok (.getfield 21, 3) := by decide +kernel
theorem dX4_troubleOfVisits_50 : decode cX4_troubleOfVisits 50 = .ok (.getfield 63, 3) := by decide +kernel
theorem dX4_troubleOfVisits_53 : decode cX4_troubleOfVisits 53 = .ok (.ifCond .ne 6, 3) := by decide +kernel
theorem dX4_troubleOfVisits_56 : decode cX4_troubleOfVisits 56 = .ok (.bipush (-3), 2) := by decide +kernel
theorem dX4_troubleOfVisits_58 : decode cX4_troubleOfVisits 58 = .ok (.ireturn, 1) := by decide +kernel
theorem dX4_troubleOfVisits_59 : decode cX4_troubleOfVisits 59 = .ok (.aload_n 0, 1) := by decide +kernel
theorem dX4_troubleOfVisits_60 : decode cX4_troubleOfVisits 60 = .ok (.aload_n 0, 1) := by decide +kernel
theorem dX4_troubleOfVisits_61 : decode cX4_troubleOfVisits 61 = .ok (.getfield 13, 3) := by decide +kernel
theorem dX4_troubleOfVisits_64 : decode cX4_troubleOfVisits 64 = .ok (.iload_n 1, 1) := by decide +kernel
theorem dX4_troubleOfVisits_65 : decode cX4_troubleOfVisits 65 = .ok (.aaload, 1) := by decide +kernel
theorem dX4_troubleOfVisits_66 : decode cX4_troubleOfVisits 66 = .ok (.iload_n 3, 1) := by decide +kernel
theorem dX4_troubleOfVisits_67 : decode cX4_troubleOfVisits 67 = .ok (.iload 4, 2) := by decide +kernel
theorem dX4_troubleOfVisits_69 : decode cX4_troubleOfVisits 69 = .ok (.invokevirtual 191, 3) := by decide +kernel
theorem dX4_troubleOfVisits_72 : decode cX4_troubleOfVisits 72 = .ok (.ifCond .eq 7, 3) := by decide +kernel
theorem dX4_troubleOfVisits_75 : decode cX4_troubleOfVisits 75 = .ok (.iconst 0, 1) := by decide +kernel
theorem dX4_troubleOfVisits_76 : decode cX4_troubleOfVisits 76 = .ok (.goto 4, 3) := by decide +kernel
theorem dX4_troubleOfVisits_79 : decode cX4_troubleOfVisits 79 = .ok (.iconst (-1), 1) := by decide +kernel
theorem dX4_troubleOfVisits_80 : decode cX4_troubleOfVisits 80 = .ok (.ireturn, 1) := by decide +kernel
set_option maxRecDepth 20000 in
theorem S_X4_troubleOfVisits_0 {g : GG} {d : Nat} {F : Int32 → St → Prop} (a1 : Int32) (a2 : Int32) (a3 : Int32) (a4 : Int32) (a5 : Int32) (σ : St) (h : (ME g d M_X4_isSheet [vI a1] σ (qI (fun r1 σ2 => ((r1 = 0 → (ME g d M_X4_troubleOfCells [vR 0, vI a1, vI a2, vI a3, vI a4] σ2 (qI (fun r5 σ6 => ((r5 = 0 → ((¬ (σ6 10 3) = 0 → (vp_in a1 4 ∧ (ME g d M_X4_takeRow [vR 0, vR (2 + a1.toNatClampNeg), vI a3, vI a4] σ6 (qI (fun r10 σ11 => ((r10 = 0 → F (-1) σ11) ∧ (¬ r10 = 0 → F 0 σ11))))))) ∧ ((σ6 10 3) = 0 → F (-3) σ6))) ∧ (¬ r5 = 0 → F r5 σ6)))))) ∧ (¬ r1 = 0 → ((a4 < 0 → F (-2) σ2) ∧ (¬ a4 < 0 → ((20 < a4 → F (-2) σ2) ∧ (¬ 20 < a4 → ((¬ a5 = 0 → (ME g d M_X4_troubleOfCells [vR 0, vI a1, vI a2, vI a3, vI a4] σ2 (qI (fun r17 σ18 => ((r17 = 0 → ((¬ (σ18 10 3) = 0 → (vp_in a1 4 ∧ (ME g d M_X4_takeRow [vR 0, vR (2 + a1.toNatClampNeg), vI a3, vI a4] σ18 (qI (fun r22 σ23 => ((r22 = 0 → F (-1) σ23) ∧ (¬ r22 = 0 → F 0 σ23))))))) ∧ ((σ18 10 3) = 0 → F (-3) σ18))) ∧ (¬ r17 = 0 → F r17 σ18)))))) ∧ (a5 = 0 → F (-2) σ2)))))))))))) : VM g (d + 1) M_X4_troubleOfVisits (qI F) 0 [(0, vR 0), (1, vI a1), (2, vI a2), (3, vI a3), (4, vI a4), (5, vI a5)] [] σ := by
  refine VE_iload_n 1 dX4_troubleOfVisits_0 (k := ?_)
  refine VE_cSi [vI a1] dX4_troubleOfVisits_1 ml_X4_132 h (fun r1 σ2 h3 => ?_) (rok_D d)
  refine VE_if_eq 27 dX4_troubleOfVisits_4 (fun c4 => ?_) (fun c4 => ?_)
  · refine VE_aload_n 0 dX4_troubleOfVisits_27 (k := ?_)
    refine VE_iload_n 1 dX4_troubleOfVisits_28 (k := ?_)
    refine VE_iload_n 2 dX4_troubleOfVisits_29 (k := ?_)
    refine VE_iload_n 3 dX4_troubleOfVisits_30 (k := ?_)
    refine VE_iload 4 dX4_troubleOfVisits_31 (k := ?_)
    refine VE_cVi [vI a1, vI a2, vI a3, vI a4] dX4_troubleOfVisits_33 ml_X4_43 (h3.1 c4) (fun r5 σ6 h7 => ?_) (rok_D d)
    refine VE_istore (ls' := [(6, vI r5), (0, vR 0), (1, vI a1), (2, vI a2), (3, vI a3), (4, vI a4), (5, vI a5)]) dX4_troubleOfVisits_36 ?_
    refine VE_iload 0 dX4_troubleOfVisits_38 (k := ?_)
    refine VE_if_eq 46 dX4_troubleOfVisits_40 (fun c8 => ?_) (fun c8 => ?_)
    · refine VE_aload_n 1 dX4_troubleOfVisits_46 (k := ?_)
      refine VE_getR 10 dX4_troubleOfVisits_47 fl_X4_21 ?_
      refine VE_getI dX4_troubleOfVisits_50 fl_X4_63 ?_
      refine VE_if_ne 59 dX4_troubleOfVisits_53 (fun c9 => ?_) (fun c9 => ?_)
      · refine VE_aload_n 1 dX4_troubleOfVisits_59 (k := ?_)
        refine VE_aload_n 1 dX4_troubleOfVisits_60 (k := ?_)
        refine VE_getR 1 dX4_troubleOfVisits_61 fl_X4_13 ?_
        refine VE_iload_n 2 dX4_troubleOfVisits_64 (k := ?_)
        refine VE_aald dX4_troubleOfVisits_65 ((h7.1 c8).1 c9).1 ?_
        refine VE_iload_n 4 dX4_troubleOfVisits_66 (k := ?_)
        refine VE_iload 5 dX4_troubleOfVisits_67 (k := ?_)
        refine VE_cVi [vR (2 + a1.toNatClampNeg), vI a3, vI a4] dX4_troubleOfVisits_69 ml_X4_191 ((h7.1 c8).1 c9).2 (fun r10 σ11 h12 => ?_) (rok_D d)
        refine VE_if_eq 79 dX4_troubleOfVisits_72 (fun c13 => ?_) (fun c13 => ?_)
        · refine VE_iconst (-1) dX4_troubleOfVisits_79 (k := ?_)
          exact VM_iret dX4_troubleOfVisits_80 (h12.1 c13)
        · refine VE_iconst 0 dX4_troubleOfVisits_75 (k := ?_)
          refine VE_goto 80 dX4_troubleOfVisits_76 ?_
          exact VM_iret dX4_troubleOfVisits_80 (h12.2 c13)
      · refine VE_bipush (-3) dX4_troubleOfVisits_56 (k := ?_)
        exact VM_iret dX4_troubleOfVisits_58 ((h7.1 c8).2 c9)
    · refine VE_iload 0 dX4_troubleOfVisits_43 (k := ?_)
      exact VM_iret dX4_troubleOfVisits_45 (h7.2 c8)
  · refine VE_iload 4 dX4_troubleOfVisits_7 (k := ?_)
    refine VE_if_lt 24 dX4_troubleOfVisits_9 (fun c14 => ?_) (fun c14 => ?_)
    · refine VE_bipush (-2) dX4_troubleOfVisits_24 (k := ?_)
      exact VM_iret dX4_troubleOfVisits_26 ((h3.2 c4).1 c14)
    · refine VE_iload 4 dX4_troubleOfVisits_12 (k := ?_)
      refine VE_bipush 20 dX4_troubleOfVisits_14 (k := ?_)
      refine VE_icmp_gt 24 dX4_troubleOfVisits_16 (fun c15 => ?_) (fun c15 => ?_)
      · refine VE_bipush (-2) dX4_troubleOfVisits_24 (k := ?_)
        exact VM_iret dX4_troubleOfVisits_26 (((h3.2 c4).2 c14).1 c15)
      · refine VE_iload 5 dX4_troubleOfVisits_19 (k := ?_)
        refine VE_if_ne 27 dX4_troubleOfVisits_21 (fun c16 => ?_) (fun c16 => ?_)
        · refine VE_aload_n 0 dX4_troubleOfVisits_27 (k := ?_)
          refine VE_iload_n 1 dX4_troubleOfVisits_28 (k := ?_)
          refine VE_iload_n 2 dX4_troubleOfVisits_29 (k := ?_)
          refine VE_iload_n 3 dX4_troubleOfVisits_30 (k := ?_)
          refine VE_iload 4 dX4_troubleOfVisits_31 (k := ?_)
          refine VE_cVi [vI a1, vI a2, vI a3, vI a4] dX4_troubleOfVisits_33 ml_X4_43 ((((h3.2 c4).2 c14).2 c15).1 c16) (fun r17 σ18 h19 => ?_) (rok_D d)
          refine VE_istore (ls' := [(6, vI r17), (0, vR 0), (1, vI a1), (2, vI a2), (3, vI a3), (4, vI a4), (5, vI a5)]) dX4_troubleOfVisits_36 ?_
          refine VE_iload 0 dX4_troubleOfVisits_38 (k := ?_)
          refine VE_if_eq 46 dX4_troubleOfVisits_40 (fun c20 => ?_) (fun c20 => ?_)
          · refine VE_aload_n 1 dX4_troubleOfVisits_46 (k := ?_)
            refine VE_getR 10 dX4_troubleOfVisits_47 fl_X4_21 ?_
            refine VE_getI dX4_troubleOfVisits_50 fl_X4_63 ?_
            refine VE_if_ne 59 dX4_troubleOfVisits_53 (fun c21 => ?_) (fun c21 => ?_)
            · refine VE_aload_n 1 dX4_troubleOfVisits_59 (k := ?_)
              refine VE_aload_n 1 dX4_troubleOfVisits_60 (k := ?_)
              refine VE_getR 1 dX4_troubleOfVisits_61 fl_X4_13 ?_
              refine VE_iload_n 2 dX4_troubleOfVisits_64 (k := ?_)
              refine VE_aald dX4_troubleOfVisits_65 ((h19.1 c20).1 c21).1 ?_
              refine VE_iload_n 4 dX4_troubleOfVisits_66 (k := ?_)
              refine VE_iload 5 dX4_troubleOfVisits_67 (k := ?_)
              refine VE_cVi [vR (2 + a1.toNatClampNeg), vI a3, vI a4] dX4_troubleOfVisits_69 ml_X4_191 ((h19.1 c20).1 c21).2 (fun r22 σ23 h24 => ?_) (rok_D d)
              refine VE_if_eq 79 dX4_troubleOfVisits_72 (fun c25 => ?_) (fun c25 => ?_)
              · refine VE_iconst (-1) dX4_troubleOfVisits_79 (k := ?_)
                exact VM_iret dX4_troubleOfVisits_80 (h24.1 c25)
              · refine VE_iconst 0 dX4_troubleOfVisits_75 (k := ?_)
                refine VE_goto 80 dX4_troubleOfVisits_76 ?_
                exact VM_iret dX4_troubleOfVisits_80 (h24.2 c25)
            · refine VE_bipush (-3) dX4_troubleOfVisits_56 (k := ?_)
              exact VM_iret dX4_troubleOfVisits_58 ((h19.1 c20).2 c21)
          · refine VE_iload 0 dX4_troubleOfVisits_43 (k := ?_)
            exact VM_iret dX4_troubleOfVisits_45 (h19.2 c20)
        · refine VE_bipush (-2) dX4_troubleOfVisits_24 (k := ?_)
          exact VM_iret dX4_troubleOfVisits_26 ((((h3.2 c4).2 c14).2 c15).2 c16)
end
section
theorem dX4_troubleOfOne_0 : decode cX4_troubleOfOne 0 = .ok (.aload_n 0, 1) := by decide +kernel
theorem dX4_troubleOfOne_1 : decode cX4_troubleOfOne 1 = .ok (.getfield 21, 3) := by decide +kernel
theorem dX4_troubleOfOne_4 : decode cX4_troubleOfOne 4 = .ok (.iload_n 1, 1) := by decide +kernel
theorem dX4_troubleOfOne_5 : decode cX4_troubleOfOne 5 = .ok (.invokevirtual 64, 3) := by decide +kernel
theorem dX4_troubleOfOne_8 : decode cX4_troubleOfOne 8 = .ok (.ifCond .eq 17, 3) := by decide +kernel
theorem dX4_troubleOfOne_11 : decode cX4_troubleOfOne 11 = .ok (.aload_n 0, 1) := by decide +kernel
theorem dX4_troubleOfOne_12 : decode cX4_troubleOfOne 12 = .ok (.iload_n 2, 1) := by decide +kernel
theorem dX4_troubleOfOne_13 : decode cX4_troubleOfOne 13 = .ok (.iload_n 3, 1) := by decide +kernel
theorem dX4_troubleOfOne_14 : decode cX4_troubleOfOne 14 = .ok (.iload 4, 2) := by decide +kernel
theorem dX4_troubleOfOne_16 : decode cX4_troubleOfOne 16 = .ok (.iload 5, 2) := by decide +kernel
theorem dX4_troubleOfOne_18 : decode cX4_troubleOfOne 18 = .ok (.iconst 1, 1) := by decide +kernel
theorem dX4_troubleOfOne_19 : decode cX4_troubleOfOne 19 = .ok (.invokevirtual 84, 3) := by decide +kernel
theorem dX4_troubleOfOne_22 : decode cX4_troubleOfOne 22 = .ok (.goto 4, 3) := by decide +kernel
theorem dX4_troubleOfOne_25 : decode cX4_troubleOfOne 25 = .ok (.iconst (-1), 1) := by decide +kernel
theorem dX4_troubleOfOne_26 : decode cX4_troubleOfOne 26 = .ok (.ireturn, 1) := by decide +kernel
set_option maxRecDepth 20000 in
theorem S_X4_troubleOfOne_0 {g : GG} {d : Nat} {F : Int32 → St → Prop} (a1 : Int32) (a2 : Int32) (a3 : Int32) (a4 : Int32) (a5 : Int32) (σ : St) (h : (ME g d M_X0_has [vR 10, vI a1] σ (qI (fun r1 σ2 => ((r1 = 0 → F (-1) σ2) ∧ (¬ r1 = 0 → (ME g d M_X4_troubleOfVisits [vR 0, vI a2, vI a3, vI a4, vI a5, vI 1] σ2 (qI (fun r5 σ6 => F r5 σ6))))))))) : VM g (d + 1) M_X4_troubleOfOne (qI F) 0 [(0, vR 0), (1, vI a1), (2, vI a2), (3, vI a3), (4, vI a4), (5, vI a5)] [] σ := by
  refine VE_aload_n 0 dX4_troubleOfOne_0 (k := ?_)
  refine VE_getR 10 dX4_troubleOfOne_1 fl_X4_21 ?_
  refine VE_iload_n 1 dX4_troubleOfOne_4 (k := ?_)
  refine VE_cVi [vI a1] dX4_troubleOfOne_5 ml_X4_64 h (fun r1 σ2 h3 => ?_) (rok_D d)
  refine VE_if_eq 25 dX4_troubleOfOne_8 (fun c4 => ?_) (fun c4 => ?_)
  · refine VE_iconst (-1) dX4_troubleOfOne_25 (k := ?_)
    exact VM_iret dX4_troubleOfOne_26 (h3.1 c4)
  · refine VE_aload_n 0 dX4_troubleOfOne_11 (k := ?_)
    refine VE_iload_n 2 dX4_troubleOfOne_12 (k := ?_)
    refine VE_iload_n 3 dX4_troubleOfOne_13 (k := ?_)
    refine VE_iload 4 dX4_troubleOfOne_14 (k := ?_)
    refine VE_iload 5 dX4_troubleOfOne_16 (k := ?_)
    refine VE_iconst 1 dX4_troubleOfOne_18 (k := ?_)
    refine VE_cVi [vI a2, vI a3, vI a4, vI a5, vI 1] dX4_troubleOfOne_19 ml_X4_84 (h3.2 c4) (fun r5 σ6 h7 => ?_) (rok_D d)
    refine VE_goto 26 dX4_troubleOfOne_22 ?_
    exact VM_iret dX4_troubleOfOne_26 h7
theorem dX4_troubleOfNew_0 : decode cX4_troubleOfNew 0 = .ok (.iload_n 1, 1) := by decide +kernel
theorem dX4_troubleOfNew_1 : decode cX4_troubleOfNew 1 = .ok (.invokestatic 132, 3) := by decide +kernel
theorem dX4_troubleOfNew_4 : decode cX4_troubleOfNew 4 = .ok (.ifCond .ne 5, 3) := by decide +kernel
theorem dX4_troubleOfNew_7 : decode cX4_troubleOfNew 7 = .ok (.iconst (-1), 1) := by decide +kernel
theorem dX4_troubleOfNew_8 : decode cX4_troubleOfNew 8 = .ok (.ireturn, 1) := by decide +kernel
theorem dX4_troubleOfNew_9 : decode cX4_troubleOfNew 9 = .ok (.iload_n 2, 1) := by decide +kernel
theorem dX4_troubleOfNew_10 : decode cX4_troubleOfNew 10 = .ok (.invokestatic 185, 3) := by decide +kernel
theorem dX4_troubleOfNew_13 : decode cX4_troubleOfNew 13 = .ok (.ifCond .eq 9, 3) := by decide +kernel
theorem dX4_troubleOfNew_16 : decode cX4_troubleOfNew 16 = .ok (.iload_n 3, 1) := by decide +kernel
theorem dX4_troubleOfNew_17 : decode cX4_troubleOfNew 17 = .ok (.bipush 60, 2) := by decide +kernel
theorem dX4_troubleOfNew_19 : decode cX4_troubleOfNew 19 = .ok (.if_icmp .le 6, 3) := by decide +kernel
theorem dX4_troubleOfNew_22 : decode cX4_troubleOfNew 22 = .ok (.bipush (-2), 2) := by decide +kernel
theorem dX4_troubleOfNew_24 : decode cX4_troubleOfNew 24 = .ok (.ireturn, 1) := by decide +kernel
theorem dX4_troubleOfNew_25 : decode cX4_troubleOfNew 25 = .ok (.iload_n 3, 1) := by decide +kernel
theorem dX4_troubleOfNew_26 : decode cX4_troubleOfNew 26 = .ok (.ifCond .ge 8, 3) := by decide +kernel
theorem dX4_troubleOfNew_29 : decode cX4_troubleOfNew 29 = .ok (.bipush (-14), 2) := by decide +kernel
theorem dX4_troubleOfNew_31 : decode cX4_troubleOfNew 31 = .ok (.goto 4, 3) := by decide +kernel
theorem dX4_troubleOfNew_34 : decode cX4_troubleOfNew 34 = .ok (.iconst 0, 1) := by decide +kernel
theorem dX4_troubleOfNew_35 : decode cX4_troubleOfNew 35 = .ok (.ireturn, 1) := by decide +kernel
set_option maxRecDepth 20000 in
theorem S_X4_troubleOfNew_0 {g : GG} {d : Nat} {F : Int32 → St → Prop} (a1 : Int32) (a2 : Int32) (a3 : Int32) (σ : St) (h : (ME g d M_X4_isSheet [vI a1] σ (qI (fun r1 σ2 => ((¬ r1 = 0 → (ME g d M_X4_isLane [vI a2] σ2 (qI (fun r5 σ6 => ((r5 = 0 → F (-2) σ6) ∧ (¬ r5 = 0 → ((a3 ≤ 60 → ((0 ≤ a3 → F 0 σ6) ∧ (¬ 0 ≤ a3 → F (-14) σ6))) ∧ (¬ a3 ≤ 60 → F (-2) σ6)))))))) ∧ (r1 = 0 → F (-1) σ2)))))) : VM g (d + 1) M_X4_troubleOfNew (qI F) 0 [(0, vR 0), (1, vI a1), (2, vI a2), (3, vI a3)] [] σ := by
  refine VE_iload_n 1 dX4_troubleOfNew_0 (k := ?_)
  refine VE_cSi [vI a1] dX4_troubleOfNew_1 ml_X4_132 h (fun r1 σ2 h3 => ?_) (rok_D d)
  refine VE_if_ne 9 dX4_troubleOfNew_4 (fun c4 => ?_) (fun c4 => ?_)
  · refine VE_iload_n 2 dX4_troubleOfNew_9 (k := ?_)
    refine VE_cSi [vI a2] dX4_troubleOfNew_10 ml_X4_185 (h3.1 c4) (fun r5 σ6 h7 => ?_) (rok_D d)
    refine VE_if_eq 22 dX4_troubleOfNew_13 (fun c8 => ?_) (fun c8 => ?_)
    · refine VE_bipush (-2) dX4_troubleOfNew_22 (k := ?_)
      exact VM_iret dX4_troubleOfNew_24 (h7.1 c8)
    · refine VE_iload_n 3 dX4_troubleOfNew_16 (k := ?_)
      refine VE_bipush 60 dX4_troubleOfNew_17 (k := ?_)
      refine VE_icmp_le 25 dX4_troubleOfNew_19 (fun c9 => ?_) (fun c9 => ?_)
      · refine VE_iload_n 3 dX4_troubleOfNew_25 (k := ?_)
        refine VE_if_ge 34 dX4_troubleOfNew_26 (fun c10 => ?_) (fun c10 => ?_)
        · refine VE_iconst 0 dX4_troubleOfNew_34 (k := ?_)
          exact VM_iret dX4_troubleOfNew_35 (((h7.2 c8).1 c9).1 c10)
        · refine VE_bipush (-14) dX4_troubleOfNew_29 (k := ?_)
          refine VE_goto 35 dX4_troubleOfNew_31 ?_
          exact VM_iret dX4_troubleOfNew_35 (((h7.2 c8).1 c9).2 c10)
      · refine VE_bipush (-2) dX4_troubleOfNew_22 (k := ?_)
        exact VM_iret dX4_troubleOfNew_24 ((h7.2 c8).2 c9)
  · refine VE_iconst (-1) dX4_troubleOfNew_7 (k := ?_)
    exact VM_iret dX4_troubleOfNew_8 (h3.2 c4)
theorem dX4_troubleOfPut_0 : decode cX4_troubleOfPut 0 = .ok (.iload_n 1, 1) := by decide +kernel
theorem dX4_troubleOfPut_1 : decode cX4_troubleOfPut 1 = .ok (.invokestatic 132, 3) := by decide +kernel
theorem dX4_troubleOfPut_4 : decode cX4_troubleOfPut 4 = .ok (.ifCond .ne 5, 3) := by decide +kernel
theorem dX4_troubleOfPut_7 : decode cX4_troubleOfPut 7 = .ok (.iconst (-1), 1) := by decide +kernel
theorem dX4_troubleOfPut_8 : decode cX4_troubleOfPut 8 = .ok (.ireturn, 1) := by decide +kernel
theorem dX4_troubleOfPut_9 : decode cX4_troubleOfPut 9 = .ok (.aload_n 0, 1) := by decide +kernel
theorem dX4_troubleOfPut_10 : decode cX4_troubleOfPut 10 = .ok (.getfield 13, 3) := by decide +kernel
theorem dX4_troubleOfPut_13 : decode cX4_troubleOfPut 13 = .ok (.iload_n 1, 1) := by decide +kernel
theorem dX4_troubleOfPut_14 : decode cX4_troubleOfPut 14 = .ok (.aaload, 1) := by decide +kernel
theorem dX4_troubleOfPut_15 : decode cX4_troubleOfPut 15 = .ok (.invokevirtual 135, 3) := by decide +kernel
theorem dX4_troubleOfPut_18 : decode cX4_troubleOfPut 18 = .ok (.ifCond .eq 6, 3) := by decide +kernel
theorem dX4_troubleOfPut_21 : decode cX4_troubleOfPut 21 = .ok (.bipush (-11), 2) := by decide +kernel
theorem dX4_troubleOfPut_23 : decode cX4_troubleOfPut 23 = .ok (.ireturn, 1) := by decide +kernel
theorem dX4_troubleOfPut_24 : decode cX4_troubleOfPut 24 = .ok (.aload_n 0, 1) := by decide +kernel
theorem dX4_troubleOfPut_25 : decode cX4_troubleOfPut 25 = .ok (.getfield 13, 3) := by decide +kernel
theorem dX4_troubleOfPut_28 : decode cX4_troubleOfPut 28 = .ok (.iload_n 1, 1) := by decide +kernel
theorem dX4_troubleOfPut_29 : decode cX4_troubleOfPut 29 = .ok (.aaload, 1) := by decide +kernel
theorem dX4_troubleOfPut_30 : decode cX4_troubleOfPut 30 = .ok (.iload_n 2, 1) := by decide +kernel
theorem dX4_troubleOfPut_31 : decode cX4_troubleOfPut 31 = .ok (.iconst 1, 1) := by decide +kernel
theorem dX4_troubleOfPut_32 : decode cX4_troubleOfPut 32 = .ok (.invokevirtual 195, 3) := by decide +kernel
theorem dX4_troubleOfPut_35 : decode cX4_troubleOfPut 35 = .ok (.ifCond .eq 7, 3) := by decide +kernel
theorem dX4_troubleOfPut_38 : decode cX4_troubleOfPut 38 = .ok (.iconst 0, 1) := by decide +kernel
theorem dX4_troubleOfPut_39 : decode cX4_troubleOfPut 39 = .ok (.goto 5, 3) := by decide +kernel
theorem dX4_troubleOfPut_42 : decode cX4_troubleOfPut 42 = .ok (.bipush (-13), 2) := by decide +kernel
theorem dX4_troubleOfPut_44 : decode cX4_troubleOfPut 44 = .ok (.ireturn, 1) := by decide +kernel
set_option maxRecDepth 20000 in
theorem S_X4_troubleOfPut_0 {g : GG} {d : Nat} {F : Int32 → St → Prop} (a1 : Int32) (a2 : Int32) (σ : St) (h : (ME g d M_X4_isSheet [vI a1] σ (qI (fun r1 σ2 => ((¬ r1 = 0 → (vp_in a1 4 ∧ (ME g d M_X3_isNothing [vR (2 + a1.toNatClampNeg)] σ2 (qI (fun r5 σ6 => ((r5 = 0 → (ME g d M_X3_hasCells [vR (2 + a1.toNatClampNeg), vI a2, vI 1] σ6 (qI (fun r9 σ10 => ((r9 = 0 → F (-13) σ10) ∧ (¬ r9 = 0 → F 0 σ10)))))) ∧ (¬ r5 = 0 → F (-11) σ6))))))) ∧ (r1 = 0 → F (-1) σ2)))))) : VM g (d + 1) M_X4_troubleOfPut (qI F) 0 [(0, vR 0), (1, vI a1), (2, vI a2)] [] σ := by
  refine VE_iload_n 1 dX4_troubleOfPut_0 (k := ?_)
  refine VE_cSi [vI a1] dX4_troubleOfPut_1 ml_X4_132 h (fun r1 σ2 h3 => ?_) (rok_D d)
  refine VE_if_ne 9 dX4_troubleOfPut_4 (fun c4 => ?_) (fun c4 => ?_)
  · refine VE_aload_n 0 dX4_troubleOfPut_9 (k := ?_)
    refine VE_getR 1 dX4_troubleOfPut_10 fl_X4_13 ?_
    refine VE_iload_n 1 dX4_troubleOfPut_13 (k := ?_)
    refine VE_aald dX4_troubleOfPut_14 (h3.1 c4).1 ?_
    refine VE_cVi [] dX4_troubleOfPut_15 ml_X4_135 (h3.1 c4).2 (fun r5 σ6 h7 => ?_) (rok_D d) (hj := sh_ocl (vin_lt (h3.1 c4).1))
    refine VE_if_eq 24 dX4_troubleOfPut_18 (fun c8 => ?_) (fun c8 => ?_)
    · refine VE_aload_n 0 dX4_troubleOfPut_24 (k := ?_)
      refine VE_getR 1 dX4_troubleOfPut_25 fl_X4_13 ?_
      refine VE_iload_n 1 dX4_troubleOfPut_28 (k := ?_)
      refine VE_aald dX4_troubleOfPut_29 (h3.1 c4).1 ?_
      refine VE_iload_n 2 dX4_troubleOfPut_30 (k := ?_)
      refine VE_iconst 1 dX4_troubleOfPut_31 (k := ?_)
      refine VE_cVi [vI a2, vI 1] dX4_troubleOfPut_32 ml_X4_195 (h7.1 c8) (fun r9 σ10 h11 => ?_) (rok_D d) (hj := sh_ocl (vin_lt (h3.1 c4).1))
      refine VE_if_eq 42 dX4_troubleOfPut_35 (fun c12 => ?_) (fun c12 => ?_)
      · refine VE_bipush (-13) dX4_troubleOfPut_42 (k := ?_)
        exact VM_iret dX4_troubleOfPut_44 (h11.1 c12)
      · refine VE_iconst 0 dX4_troubleOfPut_38 (k := ?_)
        refine VE_goto 44 dX4_troubleOfPut_39 ?_
        exact VM_iret dX4_troubleOfPut_44 (h11.2 c12)
    · refine VE_bipush (-11) dX4_troubleOfPut_21 (k := ?_)
      exact VM_iret dX4_troubleOfPut_23 (h7.2 c8)
  · refine VE_iconst (-1) dX4_troubleOfPut_7 (k := ?_)
    exact VM_iret dX4_troubleOfPut_8 (h3.2 c4)
theorem dX4_troubleOfCopy_0 : decode cX4_troubleOfCopy 0 = .ok (.iload_n 1, 1) := by decide +kernel
theorem dX4_troubleOfCopy_1 : decode cX4_troubleOfCopy 1 = .ok (.invokestatic 132, 3) := by decide +kernel
theorem dX4_troubleOfCopy_4 : decode cX4_troubleOfCopy 4 = .ok (.ifCond .eq 10, 3) := by decide +kernel
theorem dX4_troubleOfCopy_7 : decode cX4_troubleOfCopy 7 = .ok (.iload_n 3, 1) := by decide +kernel
theorem dX4_troubleOfCopy_8 : decode cX4_troubleOfCopy 8 = .ok (.invokestatic 132, 3) := by decide +kernel
theorem dX4_troubleOfCopy_11 : decode cX4_troubleOfCopy 11 = .ok (.ifCond .ne 5, 3) := by decide +kernel
theorem dX4_troubleOfCopy_14 : decode cX4_troubleOfCopy 14 = .ok (.iconst (-1), 1) := by decide +kernel
theorem dX4_troubleOfCopy_15 : decode cX4_troubleOfCopy 15 = .ok (.ireturn, 1) := by decide +kernel
theorem dX4_troubleOfCopy_16 : decode cX4_troubleOfCopy 16 = .ok (.aload_n 0, 1) := by decide +kernel
theorem dX4_troubleOfCopy_17 : decode cX4_troubleOfCopy 17 = .ok (.getfield 13, 3) := by decide +kernel
theorem dX4_troubleOfCopy_20 : decode cX4_troubleOfCopy 20 = .ok (.iload_n 1, 1) := by decide +kernel
theorem dX4_troubleOfCopy_21 : decode cX4_troubleOfCopy 21 = .ok (.aaload, 1) := by decide +kernel
theorem dX4_troubleOfCopy_22 : decode cX4_troubleOfCopy 22 = .ok (.invokevirtual 135, 3) := by decide +kernel
theorem dX4_troubleOfCopy_25 : decode cX4_troubleOfCopy 25 = .ok (.ifCond .ne 15, 3) := by decide +kernel
theorem dX4_troubleOfCopy_28 : decode cX4_troubleOfCopy 28 = .ok (.aload_n 0, 1) := by decide +kernel
theorem dX4_troubleOfCopy_29 : decode cX4_troubleOfCopy 29 = .ok (.getfield 13, 3) := by decide +kernel
theorem dX4_troubleOfCopy_32 : decode cX4_troubleOfCopy 32 = .ok (.iload_n 3, 1) := by decide +kernel
theorem dX4_troubleOfCopy_33 : decode cX4_troubleOfCopy 33 = .ok (.aaload, 1) := by decide +kernel
theorem dX4_troubleOfCopy_34 : decode cX4_troubleOfCopy 34 = .ok (.invokevirtual 135, 3) := by decide +kernel
theorem dX4_troubleOfCopy_37 : decode cX4_troubleOfCopy 37 = .ok (.ifCond .eq 6, 3) := by decide +kernel
theorem dX4_troubleOfCopy_40 : decode cX4_troubleOfCopy 40 = .ok (.bipush (-11), 2) := by decide +kernel
theorem dX4_troubleOfCopy_42 : decode cX4_troubleOfCopy 42 = .ok (.ireturn, 1) := by decide +kernel
theorem dX4_troubleOfCopy_43 : decode cX4_troubleOfCopy 43 = .ok (.aload_n 0, 1) := by decide +kernel
theorem dX4_troubleOfCopy_44 : decode cX4_troubleOfCopy 44 = .ok (.getfield 13, 3) := by decide +kernel
theorem dX4_troubleOfCopy_47 : decode cX4_troubleOfCopy 47 = .ok (.iload_n 1, 1) := by decide +kernel
theorem dX4_troubleOfCopy_48 : decode cX4_troubleOfCopy 48 = .ok (.aaload, 1) := by decide +kernel
theorem dX4_troubleOfCopy_49 : decode cX4_troubleOfCopy 49 = .ok (.getfield 148, 3) := by decide +kernel
theorem dX4_troubleOfCopy_52 : decode cX4_troubleOfCopy 52 = .ok (.aload_n 0, 1) := by decide +kernel
theorem dX4_troubleOfCopy_53 : decode cX4_troubleOfCopy 53 = .ok (.getfield 13, 3) := by decide +kernel
theorem dX4_troubleOfCopy_56 : decode cX4_troubleOfCopy 56 = .ok (.iload_n 3, 1) := by decide +kernel
theorem dX4_troubleOfCopy_57 : decode cX4_troubleOfCopy 57 = .ok (.aaload, 1) := by decide +kernel
theorem dX4_troubleOfCopy_58 : decode cX4_troubleOfCopy 58 = .ok (.getfield 148, 3) := by decide +kernel
theorem dX4_troubleOfCopy_61 : decode cX4_troubleOfCopy 61 = .ok (.if_icmp .eq 6, 3) := by decide +kernel
theorem dX4_troubleOfCopy_64 : decode cX4_troubleOfCopy 64 = .ok (.bipush (-12), 2) := by decide +kernel
theorem dX4_troubleOfCopy_66 : decode cX4_troubleOfCopy 66 = .ok (.ireturn, 1) := by decide +kernel
theorem dX4_troubleOfCopy_67 : decode cX4_troubleOfCopy 67 = .ok (.aload_n 0, 1) := by decide +kernel
theorem dX4_troubleOfCopy_68 : decode cX4_troubleOfCopy 68 = .ok (.getfield 13, 3) := by decide +kernel
theorem dX4_troubleOfCopy_71 : decode cX4_troubleOfCopy 71 = .ok (.iload_n 1, 1) := by decide +kernel
theorem dX4_troubleOfCopy_72 : decode cX4_troubleOfCopy 72 = .ok (.aaload, 1) := by decide +kernel
theorem dX4_troubleOfCopy_73 : decode cX4_troubleOfCopy 73 = .ok (.iload_n 2, 1) := by decide +kernel
theorem dX4_troubleOfCopy_74 : decode cX4_troubleOfCopy 74 = .ok (.iload 5, 2) := by decide +kernel
theorem dX4_troubleOfCopy_76 : decode cX4_troubleOfCopy 76 = .ok (.invokevirtual 195, 3) := by decide +kernel
theorem dX4_troubleOfCopy_79 : decode cX4_troubleOfCopy 79 = .ok (.ifCond .eq 23, 3) := by decide +kernel
theorem dX4_troubleOfCopy_82 : decode cX4_troubleOfCopy 82 = .ok (.aload_n 0, 1) := by decide +kernel
theorem dX4_troubleOfCopy_83 : decode cX4_troubleOfCopy 83 = .ok (.getfield 13, 3) := by decide +kernel
theorem dX4_troubleOfCopy_86 : decode cX4_troubleOfCopy 86 = .ok (.iload_n 3, 1) := by decide +kernel
theorem dX4_troubleOfCopy_87 : decode cX4_troubleOfCopy 87 = .ok (.aaload, 1) := by decide +kernel
theorem dX4_troubleOfCopy_88 : decode cX4_troubleOfCopy 88 = .ok (.iload 4, 2) := by decide +kernel
theorem dX4_troubleOfCopy_90 : decode cX4_troubleOfCopy 90 = .ok (.iload 5, 2) := by decide +kernel
theorem dX4_troubleOfCopy_92 : decode cX4_troubleOfCopy 92 = .ok (.invokevirtual 195, 3) := by decide +kernel
theorem dX4_troubleOfCopy_95 : decode cX4_troubleOfCopy 95 = .ok (.ifCond .eq 7, 3) := by decide +kernel
theorem dX4_troubleOfCopy_98 : decode cX4_troubleOfCopy 98 = .ok (.iconst 0, 1) := by decide +kernel
theorem dX4_troubleOfCopy_99 : decode cX4_troubleOfCopy 99 = .ok (.goto 5, 3) := by decide +kernel
theorem dX4_troubleOfCopy_102 : decode cX4_troubleOfCopy 102 = .ok (.bipush (-13), 2) := by decide +kernel
theorem dX4_troubleOfCopy_104 : decode cX4_troubleOfCopy 104 = .ok (.ireturn, 1) := by decide +kernel
set_option maxRecDepth 20000 in
theorem S_X4_troubleOfCopy_0 {g : GG} {d : Nat} {F : Int32 → St → Prop} (a1 : Int32) (a2 : Int32) (a3 : Int32) (a4 : Int32) (a5 : Int32) (σ : St) (h : (ME g d M_X4_isSheet [vI a1] σ (qI (fun r1 σ2 => ((r1 = 0 → F (-1) σ2) ∧ (¬ r1 = 0 → (ME g d M_X4_isSheet [vI a3] σ2 (qI (fun r5 σ6 => ((¬ r5 = 0 → (vp_in a1 4 ∧ (ME g d M_X3_isNothing [vR (2 + a1.toNatClampNeg)] σ6 (qI (fun r9 σ10 => ((¬ r9 = 0 → F (-11) σ10) ∧ (r9 = 0 → (vp_in a3 4 ∧ (ME g d M_X3_isNothing [vR (2 + a3.toNatClampNeg)] σ10 (qI (fun r13 σ14 => ((r13 = 0 → (((σ14 (2 + a1.toNatClampNeg) 1) = (σ14 (2 + a3.toNatClampNeg) 1) → (ME g d M_X3_hasCells [vR (2 + a1.toNatClampNeg), vI a2, vI a5] σ14 (qI (fun r18 σ19 => ((r18 = 0 → F (-13) σ19) ∧ (¬ r18 = 0 → (ME g d M_X3_hasCells [vR (2 + a3.toNatClampNeg), vI a4, vI a5] σ19 (qI (fun r22 σ23 => ((r22 = 0 → F (-13) σ23) ∧ (¬ r22 = 0 → F 0 σ23))))))))))) ∧ (¬ (σ14 (2 + a1.toNatClampNeg) 1) = (σ14 (2 + a3.toNatClampNeg) 1) → F (-12) σ14))) ∧ (¬ r13 = 0 → F (-11) σ14))))))))))))) ∧ (r5 = 0 → F (-1) σ6))))))))))) : VM g (d + 1) M_X4_troubleOfCopy (qI F) 0 [(0, vR 0), (1, vI a1), (2, vI a2), (3, vI a3), (4, vI a4), (5, vI a5)] [] σ := by
  refine VE_iload_n 1 dX4_troubleOfCopy_0 (k := ?_)
  refine VE_cSi [vI a1] dX4_troubleOfCopy_1 ml_X4_132 h (fun r1 σ2 h3 => ?_) (rok_D d)
  refine VE_if_eq 14 dX4_troubleOfCopy_4 (fun c4 => ?_) (fun c4 => ?_)
  · refine VE_iconst (-1) dX4_troubleOfCopy_14 (k := ?_)
    exact VM_iret dX4_troubleOfCopy_15 (h3.1 c4)
  · refine VE_iload_n 3 dX4_troubleOfCopy_7 (k := ?_)
    refine VE_cSi [vI a3] dX4_troubleOfCopy_8 ml_X4_132 (h3.2 c4) (fun r5 σ6 h7 => ?_) (rok_D d)
    refine VE_if_ne 16 dX4_troubleOfCopy_11 (fun c8 => ?_) (fun c8 => ?_)
    · refine VE_aload_n 0 dX4_troubleOfCopy_16 (k := ?_)
      refine VE_getR 1 dX4_troubleOfCopy_17 fl_X4_13 ?_
      refine VE_iload_n 1 dX4_troubleOfCopy_20 (k := ?_)
      refine VE_aald dX4_troubleOfCopy_21 (h7.1 c8).1 ?_
      refine VE_cVi [] dX4_troubleOfCopy_22 ml_X4_135 (h7.1 c8).2 (fun r9 σ10 h11 => ?_) (rok_D d) (hj := sh_ocl (vin_lt (h7.1 c8).1))
      refine VE_if_ne 40 dX4_troubleOfCopy_25 (fun c12 => ?_) (fun c12 => ?_)
      · refine VE_bipush (-11) dX4_troubleOfCopy_40 (k := ?_)
        exact VM_iret dX4_troubleOfCopy_42 (h11.1 c12)
      · refine VE_aload_n 0 dX4_troubleOfCopy_28 (k := ?_)
        refine VE_getR 1 dX4_troubleOfCopy_29 fl_X4_13 ?_
        refine VE_iload_n 3 dX4_troubleOfCopy_32 (k := ?_)
        refine VE_aald dX4_troubleOfCopy_33 (h11.2 c12).1 ?_
        refine VE_cVi [] dX4_troubleOfCopy_34 ml_X4_135 (h11.2 c12).2 (fun r13 σ14 h15 => ?_) (rok_D d) (hj := sh_ocl (vin_lt (h11.2 c12).1))
        refine VE_if_eq 43 dX4_troubleOfCopy_37 (fun c16 => ?_) (fun c16 => ?_)
        · refine VE_aload_n 0 dX4_troubleOfCopy_43 (k := ?_)
          refine VE_getR 1 dX4_troubleOfCopy_44 fl_X4_13 ?_
          refine VE_iload_n 1 dX4_troubleOfCopy_47 (k := ?_)
          refine VE_aald dX4_troubleOfCopy_48 (h7.1 c8).1 ?_
          refine VE_getI dX4_troubleOfCopy_49 fl_X4_148 ?_ (sh_f1 (vin_lt (h7.1 c8).1))
          refine VE_aload_n 0 dX4_troubleOfCopy_52 (k := ?_)
          refine VE_getR 1 dX4_troubleOfCopy_53 fl_X4_13 ?_
          refine VE_iload_n 3 dX4_troubleOfCopy_56 (k := ?_)
          refine VE_aald dX4_troubleOfCopy_57 (h11.2 c12).1 ?_
          refine VE_getI dX4_troubleOfCopy_58 fl_X4_148 ?_ (sh_f1 (vin_lt (h11.2 c12).1))
          refine VE_icmp_eq 67 dX4_troubleOfCopy_61 (fun c17 => ?_) (fun c17 => ?_)
          · refine VE_aload_n 0 dX4_troubleOfCopy_67 (k := ?_)
            refine VE_getR 1 dX4_troubleOfCopy_68 fl_X4_13 ?_
            refine VE_iload_n 1 dX4_troubleOfCopy_71 (k := ?_)
            refine VE_aald dX4_troubleOfCopy_72 (h7.1 c8).1 ?_
            refine VE_iload_n 2 dX4_troubleOfCopy_73 (k := ?_)
            refine VE_iload 5 dX4_troubleOfCopy_74 (k := ?_)
            refine VE_cVi [vI a2, vI a5] dX4_troubleOfCopy_76 ml_X4_195 ((h15.1 c16).1 c17) (fun r18 σ19 h20 => ?_) (rok_D d) (hj := sh_ocl (vin_lt (h7.1 c8).1))
            refine VE_if_eq 102 dX4_troubleOfCopy_79 (fun c21 => ?_) (fun c21 => ?_)
            · refine VE_bipush (-13) dX4_troubleOfCopy_102 (k := ?_)
              exact VM_iret dX4_troubleOfCopy_104 (h20.1 c21)
            · refine VE_aload_n 0 dX4_troubleOfCopy_82 (k := ?_)
              refine VE_getR 1 dX4_troubleOfCopy_83 fl_X4_13 ?_
              refine VE_iload_n 3 dX4_troubleOfCopy_86 (k := ?_)
              refine VE_aald dX4_troubleOfCopy_87 (h11.2 c12).1 ?_
              refine VE_iload 4 dX4_troubleOfCopy_88 (k := ?_)
              refine VE_iload 5 dX4_troubleOfCopy_90 (k := ?_)
              refine VE_cVi [vI a4, vI a5] dX4_troubleOfCopy_92 ml_X4_195 (h20.2 c21) (fun r22 σ23 h24 => ?_) (rok_D d) (hj := sh_ocl (vin_lt (h11.2 c12).1))
              refine VE_if_eq 102 dX4_troubleOfCopy_95 (fun c25 => ?_) (fun c25 => ?_)
              · refine VE_bipush (-13) dX4_troubleOfCopy_102 (k := ?_)
                exact VM_iret dX4_troubleOfCopy_104 (h24.1 c25)
              · refine VE_iconst 0 dX4_troubleOfCopy_98 (k := ?_)
                refine VE_goto 104 dX4_troubleOfCopy_99 ?_
                exact VM_iret dX4_troubleOfCopy_104 (h24.2 c25)
          · refine VE_bipush (-12) dX4_troubleOfCopy_64 (k := ?_)
            exact VM_iret dX4_troubleOfCopy_66 ((h15.1 c16).2 c17)
        · refine VE_bipush (-11) dX4_troubleOfCopy_40 (k := ?_)
          exact VM_iret dX4_troubleOfCopy_42 (h15.2 c16)
    · refine VE_iconst (-1) dX4_troubleOfCopy_14 (k := ?_)
      exact VM_iret dX4_troubleOfCopy_15 (h7.2 c8)
theorem dX4_answerOfKind_0 : decode cX4_answerOfKind 0 = .ok (.aload_n 0, 1) := by decide +kernel
theorem dX4_answerOfKind_1 : decode cX4_answerOfKind 1 = .ok (.getfield 21, 3) := by decide +kernel
theorem dX4_answerOfKind_4 : decode cX4_answerOfKind 4 = .ok (.iload_n 1, 1) := by decide +kernel
theorem dX4_answerOfKind_5 : decode cX4_answerOfKind 5 = .ok (.invokevirtual 64, 3) := by decide +kernel
theorem dX4_answerOfKind_8 : decode cX4_answerOfKind 8 = .ok (.ifCond .ne 5, 3) := by decide +kernel
theorem dX4_answerOfKind_11 : decode cX4_answerOfKind 11 = .ok (.iconst (-1), 1) := by decide +kernel
theorem dX4_answerOfKind_12 : decode cX4_answerOfKind 12 = .ok (.ireturn, 1) := by decide +kernel
theorem dX4_answerOfKind_13 : decode cX4_answerOfKind 13 = .ok (.iload_n 2, 1) := by decide +kernel
theorem dX4_answerOfKind_14 : decode cX4_answerOfKind 14 = .ok (.ifCond .lt 8, 3) := by decide +kernel
theorem dX4_answerOfKind_17 : decode cX4_answerOfKind 17 = .ok (.iload_n 2, 1) := by decide +kernel
theorem dX4_answerOfKind_18 : decode cX4_answerOfKind 18 = .ok (.iconst 3, 1) := by decide +kernel
theorem dX4_answerOfKind_19 : decode cX4_answerOfKind 19 = .ok (.if_icmp .lt 6, 3) := by decide +kernel
theorem dX4_answerOfKind_22 : decode cX4_answerOfKind 22 = .ok (.bipush (-2), 2) := by decide +kernel
theorem dX4_answerOfKind_24 : decode cX4_answerOfKind 24 = .ok (.ireturn, 1) := by decide +kernel
theorem dX4_answerOfKind_25 : decode cX4_answerOfKind 25 = .ok (.aload_n 0, 1) := by decide +kernel
theorem dX4_answerOfKind_26 : decode cX4_answerOfKind 26 = .ok (.getfield 21, 3) := by decide +kernel
theorem dX4_answerOfKind_29 : decode cX4_answerOfKind 29 = .ok (.getfield 68, 3) := by decide +kernel
theorem dX4_answerOfKind_32 : decode cX4_answerOfKind 32 = .ok (.iload_n 1, 1) := by decide +kernel
theorem dX4_answerOfKind_33 : decode cX4_answerOfKind 33 = .ok (.iaload, 1) := by decide +kernel
theorem dX4_answerOfKind_34 : decode cX4_answerOfKind 34 = .ok (.iload_n 2, 1) := by decide +kernel
theorem dX4_answerOfKind_35 : decode cX4_answerOfKind 35 = .ok (.if_icmp .lt 7, 3) := by decide +kernel
theorem dX4_answerOfKind_38 : decode cX4_answerOfKind 38 = .ok (.iconst 1, 1) := by decide +kernel
theorem dX4_answerOfKind_39 : decode cX4_answerOfKind 39 = .ok (.goto 5, 3) := by decide +kernel
theorem dX4_answerOfKind_42 : decode cX4_answerOfKind 42 = .ok (.bipush (-12), 2) := by decide +kernel
theorem dX4_answerOfKind_44 : decode cX4_answerOfKind 44 = .ok (.ireturn, 1) := by decide +kernel
set_option maxRecDepth 20000 in
theorem S_X4_answerOfKind_0 {g : GG} {d : Nat} {F : Int32 → St → Prop} (a1 : Int32) (a2 : Int32) (σ : St) (h : (ME g d M_X0_has [vR 10, vI a1] σ (qI (fun r1 σ2 => ((¬ r1 = 0 → ((a2 < 0 → F (-2) σ2) ∧ (¬ a2 < 0 → ((a2 < 3 → (vp_in a1 5 ∧ (((σ2 11 a1.toNatClampNeg) < a2 → F (-12) σ2) ∧ (¬ (σ2 11 a1.toNatClampNeg) < a2 → F 1 σ2)))) ∧ (¬ a2 < 3 → F (-2) σ2))))) ∧ (r1 = 0 → F (-1) σ2)))))) : VM g (d + 1) M_X4_answerOfKind (qI F) 0 [(0, vR 0), (1, vI a1), (2, vI a2)] [] σ := by
  refine VE_aload_n 0 dX4_answerOfKind_0 (k := ?_)
  refine VE_getR 10 dX4_answerOfKind_1 fl_X4_21 ?_
  refine VE_iload_n 1 dX4_answerOfKind_4 (k := ?_)
  refine VE_cVi [vI a1] dX4_answerOfKind_5 ml_X4_64 h (fun r1 σ2 h3 => ?_) (rok_D d)
  refine VE_if_ne 13 dX4_answerOfKind_8 (fun c4 => ?_) (fun c4 => ?_)
  · refine VE_iload_n 2 dX4_answerOfKind_13 (k := ?_)
    refine VE_if_lt 22 dX4_answerOfKind_14 (fun c5 => ?_) (fun c5 => ?_)
    · refine VE_bipush (-2) dX4_answerOfKind_22 (k := ?_)
      exact VM_iret dX4_answerOfKind_24 ((h3.1 c4).1 c5)
    · refine VE_iload_n 2 dX4_answerOfKind_17 (k := ?_)
      refine VE_iconst 3 dX4_answerOfKind_18 (k := ?_)
      refine VE_icmp_lt 25 dX4_answerOfKind_19 (fun c6 => ?_) (fun c6 => ?_)
      · refine VE_aload_n 0 dX4_answerOfKind_25 (k := ?_)
        refine VE_getR 10 dX4_answerOfKind_26 fl_X4_21 ?_
        refine VE_getR 11 dX4_answerOfKind_29 fl_X4_68 ?_
        refine VE_iload_n 1 dX4_answerOfKind_32 (k := ?_)
        refine VE_iald dX4_answerOfKind_33 (((h3.1 c4).2 c5).1 c6).1 ?_
        refine VE_iload_n 2 dX4_answerOfKind_34 (k := ?_)
        refine VE_icmp_lt 42 dX4_answerOfKind_35 (fun c7 => ?_) (fun c7 => ?_)
        · refine VE_bipush (-12) dX4_answerOfKind_42 (k := ?_)
          exact VM_iret dX4_answerOfKind_44 ((((h3.1 c4).2 c5).1 c6).2.1 c7)
        · refine VE_iconst 1 dX4_answerOfKind_38 (k := ?_)
          refine VE_goto 44 dX4_answerOfKind_39 ?_
          exact VM_iret dX4_answerOfKind_44 ((((h3.1 c4).2 c5).1 c6).2.2 c7)
      · refine VE_bipush (-2) dX4_answerOfKind_22 (k := ?_)
        exact VM_iret dX4_answerOfKind_24 (((h3.1 c4).2 c5).2 c6)
  · refine VE_iconst (-1) dX4_answerOfKind_11 (k := ?_)
    exact VM_iret dX4_answerOfKind_12 (h3.2 c4)
theorem dX4_isSheet_0 : decode cX4_isSheet 0 = .ok (.iload_n 0, 1) := by decide +kernel
theorem dX4_isSheet_1 : decode cX4_isSheet 1 = .ok (.ifCond .lt 12, 3) := by decide +kernel
theorem dX4_isSheet_4 : decode cX4_isSheet 4 = .ok (.iload_n 0, 1) := by decide +kernel
theorem dX4_isSheet_5 : decode cX4_isSheet 5 = .ok (.iconst 4, 1) := by decide +kernel
theorem dX4_isSheet_6 : decode cX4_isSheet 6 = .ok (.if_icmp .ge 7, 3) := by decide +kernel
theorem dX4_isSheet_9 : decode cX4_isSheet 9 = .ok (.iconst 1, 1) := by decide +kernel
theorem dX4_isSheet_10 : decode cX4_isSheet 10 = .ok (.goto 4, 3) := by decide +kernel
theorem dX4_isSheet_13 : decode cX4_isSheet 13 = .ok (.iconst 0, 1) := by decide +kernel
theorem dX4_isSheet_14 : decode cX4_isSheet 14 = .ok (.ireturn, 1) := by decide +kernel
set_option maxRecDepth 20000 in
theorem S_X4_isSheet_0 {g : GG} {d : Nat} {F : Int32 → St → Prop} (a1 : Int32) (σ : St) (h : ((a1 < 0 → F 0 σ) ∧ (¬ a1 < 0 → ((4 ≤ a1 → F 0 σ) ∧ (¬ 4 ≤ a1 → F 1 σ))))) : VM g d M_X4_isSheet (qI F) 0 [(0, vI a1)] [] σ := by
  refine VE_iload_n 0 dX4_isSheet_0 (k := ?_)
  refine VE_if_lt 13 dX4_isSheet_1 (fun c1 => ?_) (fun c1 => ?_)
  · refine VE_iconst 0 dX4_isSheet_13 (k := ?_)
    exact VM_zret dX4_isSheet_14 (h.1 c1) (by decide)
  · refine VE_iload_n 0 dX4_isSheet_4 (k := ?_)
    refine VE_iconst 4 dX4_isSheet_5 (k := ?_)
    refine VE_icmp_ge 13 dX4_isSheet_6 (fun c2 => ?_) (fun c2 => ?_)
    · refine VE_iconst 0 dX4_isSheet_13 (k := ?_)
      exact VM_zret dX4_isSheet_14 ((h.2 c1).1 c2) (by decide)
    · refine VE_iconst 1 dX4_isSheet_9 (k := ?_)
      refine VE_goto 14 dX4_isSheet_10 ?_
      exact VM_zret dX4_isSheet_14 ((h.2 c1).2 c2) (by decide)
theorem dX4_isLane_0 : decode cX4_isLane 0 = .ok (.iload_n 0, 1) := by decide +kernel
theorem dX4_isLane_1 : decode cX4_isLane 1 = .ok (.ifCond .lt 12, 3) := by decide +kernel
theorem dX4_isLane_4 : decode cX4_isLane 4 = .ok (.iload_n 0, 1) := by decide +kernel
theorem dX4_isLane_5 : decode cX4_isLane 5 = .ok (.iconst 3, 1) := by decide +kernel
theorem dX4_isLane_6 : decode cX4_isLane 6 = .ok (.if_icmp .ge 7, 3) := by decide +kernel
theorem dX4_isLane_9 : decode cX4_isLane 9 = .ok (.iconst 1, 1) := by decide +kernel
theorem dX4_isLane_10 : decode cX4_isLane 10 = .ok (.goto 4, 3) := by decide +kernel
theorem dX4_isLane_13 : decode cX4_isLane 13 = .ok (.iconst 0, 1) := by decide +kernel
theorem dX4_isLane_14 : decode cX4_isLane 14 = .ok (.ireturn, 1) := by decide +kernel
set_option maxRecDepth 20000 in
theorem S_X4_isLane_0 {g : GG} {d : Nat} {F : Int32 → St → Prop} (a1 : Int32) (σ : St) (h : ((a1 < 0 → F 0 σ) ∧ (¬ a1 < 0 → ((3 ≤ a1 → F 0 σ) ∧ (¬ 3 ≤ a1 → F 1 σ))))) : VM g d M_X4_isLane (qI F) 0 [(0, vI a1)] [] σ := by
  refine VE_iload_n 0 dX4_isLane_0 (k := ?_)
  refine VE_if_lt 13 dX4_isLane_1 (fun c1 => ?_) (fun c1 => ?_)
  · refine VE_iconst 0 dX4_isLane_13 (k := ?_)
    exact VM_zret dX4_isLane_14 (h.1 c1) (by decide)
  · refine VE_iload_n 0 dX4_isLane_4 (k := ?_)
    refine VE_iconst 3 dX4_isLane_5 (k := ?_)
    refine VE_icmp_ge 13 dX4_isLane_6 (fun c2 => ?_) (fun c2 => ?_)
    · refine VE_iconst 0 dX4_isLane_13 (k := ?_)
      exact VM_zret dX4_isLane_14 ((h.2 c1).1 c2) (by decide)
    · refine VE_iconst 1 dX4_isLane_9 (k := ?_)
      refine VE_goto 14 dX4_isLane_10 ?_
      exact VM_zret dX4_isLane_14 ((h.2 c1).2 c2) (by decide)
theorem dX4_isQuestion_0 : decode cX4_isQuestion 0 = .ok (.iload_n 0, 1) := by decide +kernel
theorem dX4_isQuestion_1 : decode cX4_isQuestion 1 = .ok (.ifCond .lt 21, 3) := by decide +kernel
theorem dX4_isQuestion_4 : decode cX4_isQuestion 4 = .ok (.iload_n 0, 1) := by decide +kernel
theorem dX4_isQuestion_5 : decode cX4_isQuestion 5 = .ok (.bipush 40, 2) := by decide +kernel
theorem dX4_isQuestion_7 : decode cX4_isQuestion 7 = .ok (.if_icmp .ge 15, 3) := by decide +kernel
theorem dX4_isQuestion_10 : decode cX4_isQuestion 10 = .ok (.iload_n 0, 1) := by decide +kernel
theorem dX4_isQuestion_11 : decode cX4_isQuestion 11 = .ok (.bipush 10, 2) := by decide +kernel
theorem dX4_isQuestion_13 : decode cX4_isQuestion 13 = .ok (.irem, 1) := by decide +kernel
theorem dX4_isQuestion_14 : decode cX4_isQuestion 14 = .ok (.iconst 5, 1) := by decide +kernel
theorem dX4_isQuestion_15 : decode cX4_isQuestion 15 = .ok (.if_icmp .ge 7, 3) := by decide +kernel
theorem dX4_isQuestion_18 : decode cX4_isQuestion 18 = .ok (.iconst 1, 1) := by decide +kernel
theorem dX4_isQuestion_19 : decode cX4_isQuestion 19 = .ok (.goto 4, 3) := by decide +kernel
theorem dX4_isQuestion_22 : decode cX4_isQuestion 22 = .ok (.iconst 0, 1) := by decide +kernel
theorem dX4_isQuestion_23 : decode cX4_isQuestion 23 = .ok (.ireturn, 1) := by decide +kernel
set_option maxRecDepth 20000 in
theorem S_X4_isQuestion_0 {g : GG} {d : Nat} {F : Int32 → St → Prop} (a1 : Int32) (σ : St) (h : ((a1 < 0 → F 0 σ) ∧ (¬ a1 < 0 → ((40 ≤ a1 → F 0 σ) ∧ (¬ 40 ≤ a1 → ((5 ≤ (a1 - a1 / 10 * 10) → F 0 σ) ∧ (¬ 5 ≤ (a1 - a1 / 10 * 10) → F 1 σ))))))) : VM g d M_X4_isQuestion (qI F) 0 [(0, vI a1)] [] σ := by
  refine VE_iload_n 0 dX4_isQuestion_0 (k := ?_)
  refine VE_if_lt 22 dX4_isQuestion_1 (fun c1 => ?_) (fun c1 => ?_)
  · refine VE_iconst 0 dX4_isQuestion_22 (k := ?_)
    exact VM_zret dX4_isQuestion_23 (h.1 c1) (by decide)
  · refine VE_iload_n 0 dX4_isQuestion_4 (k := ?_)
    refine VE_bipush 40 dX4_isQuestion_5 (k := ?_)
    refine VE_icmp_ge 22 dX4_isQuestion_7 (fun c2 => ?_) (fun c2 => ?_)
    · refine VE_iconst 0 dX4_isQuestion_22 (k := ?_)
      exact VM_zret dX4_isQuestion_23 ((h.2 c1).1 c2) (by decide)
    · refine VE_iload_n 0 dX4_isQuestion_10 (k := ?_)
      refine VE_bipush 10 dX4_isQuestion_11 (k := ?_)
      refine VE_irem dX4_isQuestion_13 (by decide) ?_
      refine VE_iconst 5 dX4_isQuestion_14 (k := ?_)
      refine VE_icmp_ge 22 dX4_isQuestion_15 (fun c3 => ?_) (fun c3 => ?_)
      · refine VE_iconst 0 dX4_isQuestion_22 (k := ?_)
        exact VM_zret dX4_isQuestion_23 (((h.2 c1).2 c2).1 c3) (by decide)
      · refine VE_iconst 1 dX4_isQuestion_18 (k := ?_)
        refine VE_goto 23 dX4_isQuestion_19 ?_
        exact VM_zret dX4_isQuestion_23 (((h.2 c1).2 c2).2 c3) (by decide)
theorem dX4_firstFault_0 : decode cX4_firstFault 0 = .ok (.iconst 0, 1) := by decide +kernel
theorem dX4_firstFault_1 : decode cX4_firstFault 1 = .ok (.istore_n 3, 1) := by decide +kernel
theorem dX4_firstFault_2 : decode cX4_firstFault 2 = .ok (.iload_n 3, 1) := by decide +kernel
theorem dX4_firstFault_3 : decode cX4_firstFault 3 = .ok (.iload_n 2, 1) := by decide +kernel
theorem dX4_firstFault_4 : decode cX4_firstFault 4 = .ok (.if_icmp .ge 26, 3) := by decide +kernel
theorem dX4_firstFault_7 : decode cX4_firstFault 7 = .ok (.iload_n 3, 1) := by decide +kernel
theorem dX4_firstFault_8 : decode cX4_firstFault 8 = .ok (.aload_n 0, 1) := by decide +kernel
theorem dX4_firstFault_9 : decode cX4_firstFault 9 = .ok (.getfield 145, 3) := by decide +kernel
theorem dX4_firstFault_12 : decode cX4_firstFault 12 = .ok (.iload_n 1, 1) := by decide +kernel
theorem dX4_firstFault_13 : decode cX4_firstFault 13 = .ok (.iload_n 3, 1) := by decide +kernel
theorem dX4_firstFault_14 : decode cX4_firstFault 14 = .ok (.iadd, 1) := by decide +kernel
theorem dX4_firstFault_15 : decode cX4_firstFault 15 = .ok (.iaload, 1) := by decide +kernel
theorem dX4_firstFault_16 : decode cX4_firstFault 16 = .ok (.invokestatic 199, 3) := by decide +kernel
theorem dX4_firstFault_19 : decode cX4_firstFault 19 = .ok (.ifCond .ne 5, 3) := by decide +kernel
theorem dX4_firstFault_22 : decode cX4_firstFault 22 = .ok (.iload_n 3, 1) := by decide +kernel
theorem dX4_firstFault_23 : decode cX4_firstFault 23 = .ok (.ireturn, 1) := by decide +kernel
theorem dX4_firstFault_24 : decode cX4_firstFault 24 = .ok (.iinc 3 1, 3) := by decide +kernel
theorem dX4_firstFault_27 : decode cX4_firstFault 27 = .ok (.goto (-25), 3) := by decide +kernel
theorem dX4_firstFault_30 : decode cX4_firstFault 30 = .ok (.iload_n 2, 1) := by decide +kernel
theorem dX4_firstFault_31 : decode cX4_firstFault 31 = .ok (.bipush 8, 2) := by decide +kernel
theorem dX4_firstFault_33 : decode cX4_firstFault 33 = .ok (.if_icmp .le 15, 3) := by decide +kernel
theorem dX4_firstFault_36 : decode cX4_firstFault 36 = .ok (.iload_n 2, 1) := by decide +kernel
theorem dX4_firstFault_37 : decode cX4_firstFault 37 = .ok (.iconst 1, 1) := by decide +kernel
theorem dX4_firstFault_38 : decode cX4_firstFault 38 = .ok (.isub, 1) := by decide +kernel
theorem dX4_firstFault_39 : decode cX4_firstFault 39 = .ok (.iconst 4, 1) := by decide +kernel
theorem dX4_firstFault_40 : decode cX4_firstFault 40 = .ok (.irem, 1) := by decide +kernel
theorem dX4_firstFault_41 : decode cX4_firstFault 41 = .ok (.ifCond .ne 7, 3) := by decide +kernel
theorem dX4_firstFault_44 : decode cX4_firstFault 44 = .ok (.iconst 1, 1) := by decide +kernel
theorem dX4_firstFault_45 : decode cX4_firstFault 45 = .ok (.goto 4, 3) := by decide +kernel
theorem dX4_firstFault_48 : decode cX4_firstFault 48 = .ok (.iconst 0, 1) := by decide +kernel
theorem dX4_firstFault_49 : decode cX4_firstFault 49 = .ok (.istore_n 3, 1) := by decide +kernel
theorem dX4_firstFault_50 : decode cX4_firstFault 50 = .ok (.iload_n 3, 1) := by decide +kernel
theorem dX4_firstFault_51 : decode cX4_firstFault 51 = .ok (.ifCond .eq 8, 3) := by decide +kernel
theorem dX4_firstFault_54 : decode cX4_firstFault 54 = .ok (.bipush (-9), 2) := by decide +kernel
theorem dX4_firstFault_56 : decode cX4_firstFault 56 = .ok (.goto 4, 3) := by decide +kernel
theorem dX4_firstFault_59 : decode cX4_firstFault 59 = .ok (.iload_n 2, 1) := by decide +kernel
theorem dX4_firstFault_60 : decode cX4_firstFault 60 = .ok (.ireturn, 1) := by decide +kernel
set_option maxRecDepth 20000 in
theorem S_X4_firstFault_0 {g : GG} {d : Nat} {F : Int32 → St → Prop} {k : Nat} (hk : k < 4) (a2 : Int32) (a3 : Int32) (σ : St) (h : VM g (d + 1) M_X4_firstFault (qI F) 2 [(0, vR (2 + k)), (1, vI a2), (2, vI a3), (3, vI 0)] [] σ) : VM g (d + 1) M_X4_firstFault (qI F) 0 [(0, vR (2 + k)), (1, vI a2), (2, vI a3)] [] σ := by
  refine VE_iconst 0 dX4_firstFault_0 (k := ?_)
  refine VE_istore_n (ls' := [(3, vI 0), (0, vR (2 + k)), (1, vI a2), (2, vI a3)]) dX4_firstFault_1 ?_
  exact VE_sub [1, 2, 3, 0] rfl h
set_option maxRecDepth 20000 in
theorem S_X4_firstFault_2 {g : GG} {d : Nat} {F : Int32 → St → Prop} {k : Nat} (hk : k < 4) (x1 : Int32) (x2 : Int32) (x3 : Int32) (σ : St) (h : ((x2 ≤ x3 → ((x2 ≤ 8 → F x2 σ) ∧ (¬ x2 ≤ 8 → ((¬ ((x2 - 1) - (x2 - 1) / 4 * 4) = 0 → F x2 σ) ∧ (((x2 - 1) - (x2 - 1) / 4 * 4) = 0 → F (-9) σ))))) ∧ (¬ x2 ≤ x3 → (vp_in (x1 + x3) 60 ∧ (ME g d M_X4_goesOn [vI x3, vI (σ (6 + k) ((x1 + x3).toNatClampNeg))] σ (qI (fun r7 σ8 => ((¬ r7 = 0 → VM g (d + 1) M_X4_firstFault (qI F) 2 [(0, vR (2 + k)), (1, vI x1), (2, vI x2), (3, vI (x3 + 1))] [] σ8) ∧ (r7 = 0 → F x3 σ8))))))))) : VM g (d + 1) M_X4_firstFault (qI F) 2 [(0, vR (2 + k)), (1, vI x1), (2, vI x2), (3, vI x3)] [] σ := by
  refine VE_iload_n 3 dX4_firstFault_2 (k := ?_)
  refine VE_iload_n 2 dX4_firstFault_3 (k := ?_)
  refine VE_icmp_ge 30 dX4_firstFault_4 (fun c1 => ?_) (fun c1 => ?_)
  · refine VE_iload_n 2 dX4_firstFault_30 (k := ?_)
    refine VE_bipush 8 dX4_firstFault_31 (k := ?_)
    refine VE_icmp_le 48 dX4_firstFault_33 (fun c2 => ?_) (fun c2 => ?_)
    · refine VE_iconst 0 dX4_firstFault_48 (k := ?_)
      refine VE_istore_n (ls' := [(3, vI 0), (0, vR (2 + k)), (1, vI x1), (2, vI x2)]) dX4_firstFault_49 ?_
      refine VE_iload_n 0 dX4_firstFault_50 (k := ?_)
      refine VE_if_eq 59 dX4_firstFault_51 (fun _ => ?_) (fun c3 => absurd (by decide) c3)
      refine VE_iload_n 3 dX4_firstFault_59 (k := ?_)
      exact VM_iret dX4_firstFault_60 ((h.1 c1).1 c2)
    · refine VE_iload_n 2 dX4_firstFault_36 (k := ?_)
      refine VE_iconst 1 dX4_firstFault_37 (k := ?_)
      refine VE_isub dX4_firstFault_38 ?_
      refine VE_iconst 4 dX4_firstFault_39 (k := ?_)
      refine VE_irem dX4_firstFault_40 (by decide) ?_
      refine VE_if_ne 48 dX4_firstFault_41 (fun c4 => ?_) (fun c4 => ?_)
      · refine VE_iconst 0 dX4_firstFault_48 (k := ?_)
        refine VE_istore_n (ls' := [(3, vI 0), (0, vR (2 + k)), (1, vI x1), (2, vI x2)]) dX4_firstFault_49 ?_
        refine VE_iload_n 0 dX4_firstFault_50 (k := ?_)
        refine VE_if_eq 59 dX4_firstFault_51 (fun _ => ?_) (fun c5 => absurd (by decide) c5)
        refine VE_iload_n 3 dX4_firstFault_59 (k := ?_)
        exact VM_iret dX4_firstFault_60 (((h.1 c1).2 c2).1 c4)
      · refine VE_iconst 1 dX4_firstFault_44 (k := ?_)
        refine VE_goto 49 dX4_firstFault_45 ?_
        refine VE_istore_n (ls' := [(3, vI 1), (0, vR (2 + k)), (1, vI x1), (2, vI x2)]) dX4_firstFault_49 ?_
        refine VE_iload_n 0 dX4_firstFault_50 (k := ?_)
        refine VE_if_eq 59 dX4_firstFault_51 (fun c6 => absurd c6 (by decide)) (fun _ => ?_)
        refine VE_bipush (-9) dX4_firstFault_54 (k := ?_)
        refine VE_goto 60 dX4_firstFault_56 ?_
        exact VM_iret dX4_firstFault_60 (((h.1 c1).2 c2).2 c4)
  · refine VE_iload_n 3 dX4_firstFault_7 (k := ?_)
    refine VE_aload_n 0 dX4_firstFault_8 (k := ?_)
    refine VE_getR (6 + k) dX4_firstFault_9 fl_X4_145 ?_ (sh_f0 hk)
    refine VE_iload_n 1 dX4_firstFault_12 (k := ?_)
    refine VE_iload_n 3 dX4_firstFault_13 (k := ?_)
    refine VE_iadd dX4_firstFault_14 ?_
    refine VE_iald dX4_firstFault_15 (sh_in hk (h.2 c1).1) ?_ (sh_A hk)
    refine VE_cSi [vI x3, vI (σ (6 + k) ((x1 + x3).toNatClampNeg))] dX4_firstFault_16 ml_X4_199 (h.2 c1).2 (fun r7 σ8 h9 => ?_) (rok_D d)
    refine VE_if_ne 24 dX4_firstFault_19 (fun c10 => ?_) (fun c10 => ?_)
    · refine VE_iinc 3 (x3 + 1) (ls' := [(3, vI (x3 + 1)), (0, vR (2 + k)), (1, vI x1), (2, vI x2)]) dX4_firstFault_24 ?_
      refine VE_goto 2 dX4_firstFault_27 ?_
      exact VE_sub [1, 2, 3, 0] rfl (h9.1 c10)
    · refine VE_iload_n 3 dX4_firstFault_22 (k := ?_)
      exact VM_iret dX4_firstFault_23 (h9.2 c10)
theorem dX4_goesOn_0 : decode cX4_goesOn 0 = .ok (.iload_n 0, 1) := by decide +kernel
theorem dX4_goesOn_1 : decode cX4_goesOn 1 = .ok (.ifCond .ne 15, 3) := by decide +kernel
theorem dX4_goesOn_4 : decode cX4_goesOn 4 = .ok (.iload_n 1, 1) := by decide +kernel
theorem dX4_goesOn_5 : decode cX4_goesOn 5 = .ok (.bipush 109, 2) := by decide +kernel
theorem dX4_goesOn_7 : decode cX4_goesOn 7 = .ok (.if_icmp .ne 7, 3) := by decide +kernel
theorem dX4_goesOn_10 : decode cX4_goesOn 10 = .ok (.iconst 1, 1) := by decide +kernel
theorem dX4_goesOn_11 : decode cX4_goesOn 11 = .ok (.goto 4, 3) := by decide +kernel
theorem dX4_goesOn_14 : decode cX4_goesOn 14 = .ok (.iconst 0, 1) := by decide +kernel
theorem dX4_goesOn_15 : decode cX4_goesOn 15 = .ok (.ireturn, 1) := by decide +kernel
theorem dX4_goesOn_16 : decode cX4_goesOn 16 = .ok (.iload_n 0, 1) := by decide +kernel
theorem dX4_goesOn_17 : decode cX4_goesOn 17 = .ok (.bipush 20, 2) := by decide +kernel
theorem dX4_goesOn_19 : decode cX4_goesOn 19 = .ok (.if_icmp .le 5, 3) := by decide +kernel
theorem dX4_goesOn_22 : decode cX4_goesOn 22 = .ok (.iconst 0, 1) := by decide +kernel
theorem dX4_goesOn_23 : decode cX4_goesOn 23 = .ok (.ireturn, 1) := by decide +kernel
theorem dX4_goesOn_24 : decode cX4_goesOn 24 = .ok (.iload_n 0, 1) := by decide +kernel
theorem dX4_goesOn_25 : decode cX4_goesOn 25 = .ok (.iconst 1, 1) := by decide +kernel
theorem dX4_goesOn_26 : decode cX4_goesOn 26 = .ok (.isub, 1) := by decide +kernel
theorem dX4_goesOn_27 : decode cX4_goesOn 27 = .ok (.iconst 4, 1) := by decide +kernel
theorem dX4_goesOn_28 : decode cX4_goesOn 28 = .ok (.irem, 1) := by decide +kernel
theorem dX4_goesOn_29 : decode cX4_goesOn 29 = .ok (.tableswitch 81 0 2 #[27, 39, 63], 27) := by decide +kernel
theorem dX4_goesOn_56 : decode cX4_goesOn 56 = .ok (.iload_n 1, 1) := by decide +kernel
theorem dX4_goesOn_57 : decode cX4_goesOn 57 = .ok (.bipush 59, 2) := by decide +kernel
theorem dX4_goesOn_59 : decode cX4_goesOn 59 = .ok (.if_icmp .ne 7, 3) := by decide +kernel
theorem dX4_goesOn_62 : decode cX4_goesOn 62 = .ok (.iconst 1, 1) := by decide +kernel
theorem dX4_goesOn_63 : decode cX4_goesOn 63 = .ok (.goto 4, 3) := by decide +kernel
theorem dX4_goesOn_66 : decode cX4_goesOn 66 = .ok (.iconst 0, 1) := by decide +kernel
theorem dX4_goesOn_67 : decode cX4_goesOn 67 = .ok (.ireturn, 1) := by decide +kernel
theorem dX4_goesOn_68 : decode cX4_goesOn 68 = .ok (.iload_n 1, 1) := by decide +kernel
theorem dX4_goesOn_69 : decode cX4_goesOn 69 = .ok (.bipush 104, 2) := by decide +kernel
theorem dX4_goesOn_71 : decode cX4_goesOn 71 = .ok (.if_icmp .eq 15, 3) := by decide +kernel
theorem dX4_goesOn_74 : decode cX4_goesOn 74 = .ok (.iload_n 1, 1) := by decide +kernel
theorem dX4_goesOn_75 : decode cX4_goesOn 75 = .ok (.bipush 108, 2) := by decide +kernel
theorem dX4_goesOn_77 : decode cX4_goesOn 77 = .ok (.if_icmp .eq 9, 3) := by decide +kernel
theorem dX4_goesOn_80 : decode cX4_goesOn 80 = .ok (.iload_n 1, 1) := by decide +kernel
theorem dX4_goesOn_81 : decode cX4_goesOn 81 = .ok (.bipush 115, 2) := by decide +kernel
theorem dX4_goesOn_83 : decode cX4_goesOn 83 = .ok (.if_icmp .ne 7, 3) := by decide +kernel
theorem dX4_goesOn_86 : decode cX4_goesOn 86 = .ok (.iconst 1, 1) := by decide +kernel
theorem dX4_goesOn_87 : decode cX4_goesOn 87 = .ok (.goto 4, 3) := by decide +kernel
theorem dX4_goesOn_90 : decode cX4_goesOn 90 = .ok (.iconst 0, 1) := by decide +kernel
theorem dX4_goesOn_91 : decode cX4_goesOn 91 = .ok (.ireturn, 1) := by decide +kernel
theorem dX4_goesOn_92 : decode cX4_goesOn 92 = .ok (.iload_n 1, 1) := by decide +kernel
theorem dX4_goesOn_93 : decode cX4_goesOn 93 = .ok (.bipush 49, 2) := by decide +kernel
theorem dX4_goesOn_95 : decode cX4_goesOn 95 = .ok (.if_icmp .lt 13, 3) := by decide +kernel
theorem dX4_goesOn_98 : decode cX4_goesOn 98 = .ok (.iload_n 1, 1) := by decide +kernel
theorem dX4_goesOn_99 : decode cX4_goesOn 99 = .ok (.bipush 57, 2) := by decide +kernel
theorem dX4_goesOn_101 : decode cX4_goesOn 101 = .ok (.if_icmp .gt 7, 3) := by decide +kernel
theorem dX4_goesOn_104 : decode cX4_goesOn 104 = .ok (.iconst 1, 1) := by decide +kernel
theorem dX4_goesOn_105 : decode cX4_goesOn 105 = .ok (.goto 4, 3) := by decide +kernel
theorem dX4_goesOn_108 : decode cX4_goesOn 108 = .ok (.iconst 0, 1) := by decide +kernel
theorem dX4_goesOn_109 : decode cX4_goesOn 109 = .ok (.ireturn, 1) := by decide +kernel
theorem dX4_goesOn_110 : decode cX4_goesOn 110 = .ok (.iload_n 1, 1) := by decide +kernel
theorem dX4_goesOn_111 : decode cX4_goesOn 111 = .ok (.bipush 48, 2) := by decide +kernel
theorem dX4_goesOn_113 : decode cX4_goesOn 113 = .ok (.if_icmp .lt 13, 3) := by decide +kernel
theorem dX4_goesOn_116 : decode cX4_goesOn 116 = .ok (.iload_n 1, 1) := by decide +kernel
theorem dX4_goesOn_117 : decode cX4_goesOn 117 = .ok (.bipush 53, 2) := by decide +kernel
theorem dX4_goesOn_119 : decode cX4_goesOn 119 = .ok (.if_icmp .gt 7, 3) := by decide +kernel
theorem dX4_goesOn_122 : decode cX4_goesOn 122 = .ok (.iconst 1, 1) := by decide +kernel
theorem dX4_goesOn_123 : decode cX4_goesOn 123 = .ok (.goto 4, 3) := by decide +kernel
theorem dX4_goesOn_126 : decode cX4_goesOn 126 = .ok (.iconst 0, 1) := by decide +kernel
theorem dX4_goesOn_127 : decode cX4_goesOn 127 = .ok (.ireturn, 1) := by decide +kernel
set_option maxRecDepth 20000 in
theorem S_X4_goesOn_0 {g : GG} {d : Nat} {F : Int32 → St → Prop} (a1 : Int32) (a2 : Int32) (σ : St) (h : ((¬ a1 = 0 → ((a1 ≤ 20 → ((((a1 - 1) - (a1 - 1) / 4 * 4) = 0 → ((¬ a2 = 59 → F 0 σ) ∧ (a2 = 59 → F 1 σ))) ∧ (¬ ((a1 - 1) - (a1 - 1) / 4 * 4) = 0 → ((((a1 - 1) - (a1 - 1) / 4 * 4) = 1 → ((a2 = 104 → F 1 σ) ∧ (¬ a2 = 104 → ((a2 = 108 → F 1 σ) ∧ (¬ a2 = 108 → ((¬ a2 = 115 → F 0 σ) ∧ (a2 = 115 → F 1 σ))))))) ∧ (¬ ((a1 - 1) - (a1 - 1) / 4 * 4) = 1 → ((((a1 - 1) - (a1 - 1) / 4 * 4) = 2 → ((a2 < 49 → F 0 σ) ∧ (¬ a2 < 49 → ((57 < a2 → F 0 σ) ∧ (¬ 57 < a2 → F 1 σ))))) ∧ (¬ ((a1 - 1) - (a1 - 1) / 4 * 4) = 2 → ((a2 < 48 → F 0 σ) ∧ (¬ a2 < 48 → ((53 < a2 → F 0 σ) ∧ (¬ 53 < a2 → F 1 σ))))))))))) ∧ (¬ a1 ≤ 20 → F 0 σ))) ∧ (a1 = 0 → ((¬ a2 = 109 → F 0 σ) ∧ (a2 = 109 → F 1 σ))))) : VM g d M_X4_goesOn (qI F) 0 [(0, vI a1), (1, vI a2)] [] σ := by
  refine VE_iload_n 0 dX4_goesOn_0 (k := ?_)
  refine VE_if_ne 16 dX4_goesOn_1 (fun c1 => ?_) (fun c1 => ?_)
  · refine VE_iload_n 0 dX4_goesOn_16 (k := ?_)
    refine VE_bipush 20 dX4_goesOn_17 (k := ?_)
    refine VE_icmp_le 24 dX4_goesOn_19 (fun c2 => ?_) (fun c2 => ?_)
    · refine VE_iload_n 0 dX4_goesOn_24 (k := ?_)
      refine VE_iconst 1 dX4_goesOn_25 (k := ?_)
      refine VE_isub dX4_goesOn_26 ?_
      refine VE_iconst 4 dX4_goesOn_27 (k := ?_)
      refine VE_irem dX4_goesOn_28 (by decide) ?_
      by_cases c3 : ((a1 - 1) - (a1 - 1) / 4 * 4) = 0
      · refine VE_tableIn 56 dX4_goesOn_29 (by rw [c3]; decide) (by rw [c3]; decide) (by rw [c3]; rfl) ?_
        refine VE_iload_n 1 dX4_goesOn_56 (k := ?_)
        refine VE_bipush 59 dX4_goesOn_57 (k := ?_)
        refine VE_icmp_ne 66 dX4_goesOn_59 (fun c6 => ?_) (fun c6 => ?_)
        · refine VE_iconst 0 dX4_goesOn_66 (k := ?_)
          exact VM_zret dX4_goesOn_67 ((((h.1 c1).1 c2).1 c3).1 c6) (by decide)
        · refine VE_iconst 1 dX4_goesOn_62 (k := ?_)
          refine VE_goto 67 dX4_goesOn_63 ?_
          exact VM_zret dX4_goesOn_67 ((((h.1 c1).1 c2).1 c3).2 c6) (by decide)
      · by_cases c4 : ((a1 - 1) - (a1 - 1) / 4 * 4) = 1
        · refine VE_tableIn 68 dX4_goesOn_29 (by rw [c4]; decide) (by rw [c4]; decide) (by rw [c4]; rfl) ?_
          refine VE_iload_n 1 dX4_goesOn_68 (k := ?_)
          refine VE_bipush 104 dX4_goesOn_69 (k := ?_)
          refine VE_icmp_eq 86 dX4_goesOn_71 (fun c7 => ?_) (fun c7 => ?_)
          · refine VE_iconst 1 dX4_goesOn_86 (k := ?_)
            refine VE_goto 91 dX4_goesOn_87 ?_
            exact VM_zret dX4_goesOn_91 (((((h.1 c1).1 c2).2 c3).1 c4).1 c7) (by decide)
          · refine VE_iload_n 1 dX4_goesOn_74 (k := ?_)
            refine VE_bipush 108 dX4_goesOn_75 (k := ?_)
            refine VE_icmp_eq 86 dX4_goesOn_77 (fun c8 => ?_) (fun c8 => ?_)
            · refine VE_iconst 1 dX4_goesOn_86 (k := ?_)
              refine VE_goto 91 dX4_goesOn_87 ?_
              exact VM_zret dX4_goesOn_91 ((((((h.1 c1).1 c2).2 c3).1 c4).2 c7).1 c8) (by decide)
            · refine VE_iload_n 1 dX4_goesOn_80 (k := ?_)
              refine VE_bipush 115 dX4_goesOn_81 (k := ?_)
              refine VE_icmp_ne 90 dX4_goesOn_83 (fun c9 => ?_) (fun c9 => ?_)
              · refine VE_iconst 0 dX4_goesOn_90 (k := ?_)
                exact VM_zret dX4_goesOn_91 (((((((h.1 c1).1 c2).2 c3).1 c4).2 c7).2 c8).1 c9) (by decide)
              · refine VE_iconst 1 dX4_goesOn_86 (k := ?_)
                refine VE_goto 91 dX4_goesOn_87 ?_
                exact VM_zret dX4_goesOn_91 (((((((h.1 c1).1 c2).2 c3).1 c4).2 c7).2 c8).2 c9) (by decide)
        · by_cases c5 : ((a1 - 1) - (a1 - 1) / 4 * 4) = 2
          · refine VE_tableIn 92 dX4_goesOn_29 (by rw [c5]; decide) (by rw [c5]; decide) (by rw [c5]; rfl) ?_
            refine VE_iload_n 1 dX4_goesOn_92 (k := ?_)
            refine VE_bipush 49 dX4_goesOn_93 (k := ?_)
            refine VE_icmp_lt 108 dX4_goesOn_95 (fun c10 => ?_) (fun c10 => ?_)
            · refine VE_iconst 0 dX4_goesOn_108 (k := ?_)
              exact VM_zret dX4_goesOn_109 ((((((h.1 c1).1 c2).2 c3).2 c4).1 c5).1 c10) (by decide)
            · refine VE_iload_n 1 dX4_goesOn_98 (k := ?_)
              refine VE_bipush 57 dX4_goesOn_99 (k := ?_)
              refine VE_icmp_gt 108 dX4_goesOn_101 (fun c11 => ?_) (fun c11 => ?_)
              · refine VE_iconst 0 dX4_goesOn_108 (k := ?_)
                exact VM_zret dX4_goesOn_109 (((((((h.1 c1).1 c2).2 c3).2 c4).1 c5).2 c10).1 c11) (by decide)
              · refine VE_iconst 1 dX4_goesOn_104 (k := ?_)
                refine VE_goto 109 dX4_goesOn_105 ?_
                exact VM_zret dX4_goesOn_109 (((((((h.1 c1).1 c2).2 c3).2 c4).1 c5).2 c10).2 c11) (by decide)
          · refine VE_tableOut 110 dX4_goesOn_29 (by have e0 : ¬ ((a1 - 1) - (a1 - 1) / 4 * 4).toInt = 0 := i32_ne c3; have e1 : ¬ ((a1 - 1) - (a1 - 1) / 4 * 4).toInt = 1 := i32_ne c4; have e2 : ¬ ((a1 - 1) - (a1 - 1) / 4 * 4).toInt = 2 := i32_ne c5; omega) ?_
            refine VE_iload_n 1 dX4_goesOn_110 (k := ?_)
            refine VE_bipush 48 dX4_goesOn_111 (k := ?_)
            refine VE_icmp_lt 126 dX4_goesOn_113 (fun c12 => ?_) (fun c12 => ?_)
            · refine VE_iconst 0 dX4_goesOn_126 (k := ?_)
              exact VM_zret dX4_goesOn_127 ((((((h.1 c1).1 c2).2 c3).2 c4).2 c5).1 c12) (by decide)
            · refine VE_iload_n 1 dX4_goesOn_116 (k := ?_)
              refine VE_bipush 53 dX4_goesOn_117 (k := ?_)
              refine VE_icmp_gt 126 dX4_goesOn_119 (fun c13 => ?_) (fun c13 => ?_)
              · refine VE_iconst 0 dX4_goesOn_126 (k := ?_)
                exact VM_zret dX4_goesOn_127 (((((((h.1 c1).1 c2).2 c3).2 c4).2 c5).2 c12).1 c13) (by decide)
              · refine VE_iconst 1 dX4_goesOn_122 (k := ?_)
                refine VE_goto 127 dX4_goesOn_123 ?_
                exact VM_zret dX4_goesOn_127 (((((((h.1 c1).1 c2).2 c3).2 c4).2 c5).2 c12).2 c13) (by decide)
    · refine VE_iconst 0 dX4_goesOn_22 (k := ?_)
      exact VM_zret dX4_goesOn_23 ((h.1 c1).2 c2) (by decide)
  · refine VE_iload_n 1 dX4_goesOn_4 (k := ?_)
    refine VE_bipush 109 dX4_goesOn_5 (k := ?_)
    refine VE_icmp_ne 14 dX4_goesOn_7 (fun c14 => ?_) (fun c14 => ?_)
    · refine VE_iconst 0 dX4_goesOn_14 (k := ?_)
      exact VM_zret dX4_goesOn_15 ((h.2 c1).1 c14) (by decide)
    · refine VE_iconst 1 dX4_goesOn_10 (k := ?_)
      refine VE_goto 15 dX4_goesOn_11 ?_
      exact VM_zret dX4_goesOn_15 ((h.2 c1).2 c14) (by decide)
theorem dX4_kindOfLetter_0 : decode cX4_kindOfLetter 0 = .ok (.iload_n 0, 1) := by decide +kernel
theorem dX4_kindOfLetter_1 : decode cX4_kindOfLetter 1 = .ok (.bipush 115, 2) := by decide +kernel
theorem dX4_kindOfLetter_3 : decode cX4_kindOfLetter 3 = .ok (.if_icmp .ne 5, 3) := by decide +kernel
theorem dX4_kindOfLetter_6 : decode cX4_kindOfLetter 6 = .ok (.iconst 2, 1) := by decide +kernel
theorem dX4_kindOfLetter_7 : decode cX4_kindOfLetter 7 = .ok (.ireturn, 1) := by decide +kernel
theorem dX4_kindOfLetter_8 : decode cX4_kindOfLetter 8 = .ok (.iload_n 0, 1) := by decide +kernel
theorem dX4_kindOfLetter_9 : decode cX4_kindOfLetter 9 = .ok (.bipush 108, 2) := by decide +kernel
theorem dX4_kindOfLetter_11 : decode cX4_kindOfLetter 11 = .ok (.if_icmp .ne 7, 3) := by decide +kernel
theorem dX4_kindOfLetter_14 : decode cX4_kindOfLetter 14 = .ok (.iconst 1, 1) := by decide +kernel
theorem dX4_kindOfLetter_15 : decode cX4_kindOfLetter 15 = .ok (.goto 4, 3) := by decide +kernel
theorem dX4_kindOfLetter_18 : decode cX4_kindOfLetter 18 = .ok (.iconst 0, 1) := by decide +kernel
theorem dX4_kindOfLetter_19 : decode cX4_kindOfLetter 19 = .ok (.ireturn, 1) := by decide +kernel
set_option maxRecDepth 20000 in
theorem S_X4_kindOfLetter_0 {g : GG} {d : Nat} {F : Int32 → St → Prop} (a1 : Int32) (σ : St) (h : ((¬ a1 = 115 → ((¬ a1 = 108 → F 0 σ) ∧ (a1 = 108 → F 1 σ))) ∧ (a1 = 115 → F 2 σ))) : VM g d M_X4_kindOfLetter (qI F) 0 [(0, vI a1)] [] σ := by
  refine VE_iload_n 0 dX4_kindOfLetter_0 (k := ?_)
  refine VE_bipush 115 dX4_kindOfLetter_1 (k := ?_)
  refine VE_icmp_ne 8 dX4_kindOfLetter_3 (fun c1 => ?_) (fun c1 => ?_)
  · refine VE_iload_n 0 dX4_kindOfLetter_8 (k := ?_)
    refine VE_bipush 108 dX4_kindOfLetter_9 (k := ?_)
    refine VE_icmp_ne 18 dX4_kindOfLetter_11 (fun c2 => ?_) (fun c2 => ?_)
    · refine VE_iconst 0 dX4_kindOfLetter_18 (k := ?_)
      exact VM_iret dX4_kindOfLetter_19 ((h.1 c1).1 c2)
    · refine VE_iconst 1 dX4_kindOfLetter_14 (k := ?_)
      refine VE_goto 19 dX4_kindOfLetter_15 ?_
      exact VM_iret dX4_kindOfLetter_19 ((h.1 c1).2 c2)
  · refine VE_iconst 2 dX4_kindOfLetter_6 (k := ?_)
    exact VM_iret dX4_kindOfLetter_7 (h.2 c1)
theorem dX4_lasting_0 : decode cX4_lasting 0 = .ok (.iload_n 1, 1) := by decide +kernel
theorem dX4_lasting_1 : decode cX4_lasting 1 = .ok (.iconst 1, 1) := by decide +kernel
theorem dX4_lasting_2 : decode cX4_lasting 2 = .ok (.iadd, 1) := by decide +kernel
theorem dX4_lasting_3 : decode cX4_lasting 3 = .ok (.istore_n 2, 1) := by decide +kernel
theorem dX4_lasting_4 : decode cX4_lasting 4 = .ok (.iload_n 0, 1) := by decide +kernel
theorem dX4_lasting_5 : decode cX4_lasting 5 = .ok (.iconst 2, 1) := by decide +kernel
theorem dX4_lasting_6 : decode cX4_lasting 6 = .ok (.if_icmp .ne 7, 3) := by decide +kernel
theorem dX4_lasting_9 : decode cX4_lasting 9 = .ok (.iconst 2, 1) := by decide +kernel
theorem dX4_lasting_10 : decode cX4_lasting 10 = .ok (.iload_n 2, 1) := by decide +kernel
theorem dX4_lasting_11 : decode cX4_lasting 11 = .ok (.imul, 1) := by decide +kernel
theorem dX4_lasting_12 : decode cX4_lasting 12 = .ok (.ireturn, 1) := by decide +kernel
theorem dX4_lasting_13 : decode cX4_lasting 13 = .ok (.iload_n 0, 1) := by decide +kernel
theorem dX4_lasting_14 : decode cX4_lasting 14 = .ok (.iconst 1, 1) := by decide +kernel
theorem dX4_lasting_15 : decode cX4_lasting 15 = .ok (.if_icmp .ne 7, 3) := by decide +kernel
theorem dX4_lasting_18 : decode cX4_lasting 18 = .ok (.iload_n 2, 1) := by decide +kernel
theorem dX4_lasting_19 : decode cX4_lasting 19 = .ok (.goto 4, 3) := by decide +kernel
theorem dX4_lasting_22 : decode cX4_lasting 22 = .ok (.iload_n 1, 1) := by decide +kernel
theorem dX4_lasting_23 : decode cX4_lasting 23 = .ok (.ireturn, 1) := by decide +kernel
set_option maxRecDepth 20000 in
theorem S_X4_lasting_0 {g : GG} {d : Nat} {F : Int32 → St → Prop} (a1 : Int32) (a2 : Int32) (σ : St) (h : ((¬ a1 = 2 → ((¬ a1 = 1 → F a2 σ) ∧ (a1 = 1 → F (a2 + 1) σ))) ∧ (a1 = 2 → F (2 * (a2 + 1)) σ))) : VM g d M_X4_lasting (qI F) 0 [(0, vI a1), (1, vI a2)] [] σ := by
  refine VE_iload_n 1 dX4_lasting_0 (k := ?_)
  refine VE_iconst 1 dX4_lasting_1 (k := ?_)
  refine VE_iadd dX4_lasting_2 ?_
  refine VE_istore_n (ls' := [(2, vI (a2 + 1)), (0, vI a1), (1, vI a2)]) dX4_lasting_3 ?_
  refine VE_iload_n 1 dX4_lasting_4 (k := ?_)
  refine VE_iconst 2 dX4_lasting_5 (k := ?_)
  refine VE_icmp_ne 13 dX4_lasting_6 (fun c1 => ?_) (fun c1 => ?_)
  · refine VE_iload_n 1 dX4_lasting_13 (k := ?_)
    refine VE_iconst 1 dX4_lasting_14 (k := ?_)
    refine VE_icmp_ne 22 dX4_lasting_15 (fun c2 => ?_) (fun c2 => ?_)
    · refine VE_iload_n 2 dX4_lasting_22 (k := ?_)
      exact VM_iret dX4_lasting_23 ((h.1 c1).1 c2)
    · refine VE_iload_n 0 dX4_lasting_18 (k := ?_)
      refine VE_goto 23 dX4_lasting_19 ?_
      exact VM_iret dX4_lasting_23 ((h.1 c1).2 c2)
  · refine VE_iconst 2 dX4_lasting_9 (k := ?_)
    refine VE_iload_n 0 dX4_lasting_10 (k := ?_)
    refine VE_imul dX4_lasting_11 ?_
    exact VM_iret dX4_lasting_12 (h.2 c1)
theorem dX4_takeRow_0 : decode cX4_takeRow 0 = .ok (.iconst 0, 1) := by decide +kernel
theorem dX4_takeRow_1 : decode cX4_takeRow 1 = .ok (.istore 4, 2) := by decide +kernel
theorem dX4_takeRow_3 : decode cX4_takeRow 3 = .ok (.iload 4, 2) := by decide +kernel
theorem dX4_takeRow_5 : decode cX4_takeRow 5 = .ok (.iload_n 3, 1) := by decide +kernel
theorem dX4_takeRow_6 : decode cX4_takeRow 6 = .ok (.if_icmp .ge 43, 3) := by decide +kernel
theorem dX4_takeRow_9 : decode cX4_takeRow 9 = .ok (.aload_n 1, 1) := by decide +kernel
theorem dX4_takeRow_10 : decode cX4_takeRow 10 = .ok (.getfield 145, 3) := by decide +kernel
theorem dX4_takeRow_13 : decode cX4_takeRow 13 = .ok (.iload_n 2, 1) := by decide +kernel
theorem dX4_takeRow_14 : decode cX4_takeRow 14 = .ok (.iload 4, 2) := by decide +kernel
theorem dX4_takeRow_16 : decode cX4_takeRow 16 = .ok (.iadd, 1) := by decide +kernel
theorem dX4_takeRow_17 : decode cX4_takeRow 17 = .ok (.iaload, 1) := by decide +kernel
theorem dX4_takeRow_18 : decode cX4_takeRow 18 = .ok (.istore 5, 2) := by decide +kernel
theorem dX4_takeRow_20 : decode cX4_takeRow 20 = .ok (.aload_n 0, 1) := by decide +kernel
theorem dX4_takeRow_21 : decode cX4_takeRow 21 = .ok (.getfield 21, 3) := by decide +kernel
theorem dX4_takeRow_24 : decode cX4_takeRow 24 = .ok (.iload 5, 2) := by decide +kernel
theorem dX4_takeRow_26 : decode cX4_takeRow 26 = .ok (.invokevirtual 64, 3) := by decide +kernel
theorem dX4_takeRow_29 : decode cX4_takeRow 29 = .ok (.ifCond .ne 5, 3) := by decide +kernel
theorem dX4_takeRow_32 : decode cX4_takeRow 32 = .ok (.iconst 0, 1) := by decide +kernel
theorem dX4_takeRow_33 : decode cX4_takeRow 33 = .ok (.ireturn, 1) := by decide +kernel
theorem dX4_takeRow_34 : decode cX4_takeRow 34 = .ok (.aload_n 0, 1) := by decide +kernel
theorem dX4_takeRow_35 : decode cX4_takeRow 35 = .ok (.getfield 39, 3) := by decide +kernel
theorem dX4_takeRow_38 : decode cX4_takeRow 38 = .ok (.iload 4, 2) := by decide +kernel
theorem dX4_takeRow_40 : decode cX4_takeRow 40 = .ok (.iload 5, 2) := by decide +kernel
theorem dX4_takeRow_42 : decode cX4_takeRow 42 = .ok (.iastore, 1) := by decide +kernel
theorem dX4_takeRow_43 : decode cX4_takeRow 43 = .ok (.iinc 4 1, 3) := by decide +kernel
theorem dX4_takeRow_46 : decode cX4_takeRow 46 = .ok (.goto (-43), 3) := by decide +kernel
theorem dX4_takeRow_49 : decode cX4_takeRow 49 = .ok (.aload_n 0, 1) := by decide +kernel
theorem dX4_takeRow_50 : decode cX4_takeRow 50 = .ok (.iload_n 3, 1) := by decide +kernel
theorem dX4_takeRow_51 : decode cX4_takeRow 51 = .ok (.putfield 202, 3) := by decide +kernel
theorem dX4_takeRow_54 : decode cX4_takeRow 54 = .ok (.iconst 1, 1) := by decide +kernel
theorem dX4_takeRow_55 : decode cX4_takeRow 55 = .ok (.ireturn, 1) := by decide +kernel
set_option maxRecDepth 20000 in
theorem S_X4_takeRow_0 {g : GG} {d : Nat} {F : Int32 → St → Prop} {k : Nat} (hk : k < 4) (a2 : Int32) (a3 : Int32) (σ : St) (h : VM g (d + 1) M_X4_takeRow (qI F) 3 [(0, vR 0), (1, vR (2 + k)), (2, vI a2), (3, vI a3), (4, vI 0)] [] σ) : VM g (d + 1) M_X4_takeRow (qI F) 0 [(0, vR 0), (1, vR (2 + k)), (2, vI a2), (3, vI a3)] [] σ := by
  refine VE_iconst 0 dX4_takeRow_0 (k := ?_)
  refine VE_istore (ls' := [(4, vI 0), (0, vR 0), (1, vR (2 + k)), (2, vI a2), (3, vI a3)]) dX4_takeRow_1 ?_
  exact VE_sub [1, 2, 3, 4, 0] rfl h
set_option maxRecDepth 20000 in
theorem S_X4_takeRow_3 {g : GG} {d : Nat} {F : Int32 → St → Prop} {k : Nat} (hk : k < 4) (x2 : Int32) (x3 : Int32) (x4 : Int32) (σ : St) (h : ((x3 ≤ x4 → F 1 (sU σ 0 5 x3)) ∧ (¬ x3 ≤ x4 → (vp_in (x2 + x4) 60 ∧ (ME g d M_X0_has [vR 10, vI (σ (6 + k) ((x2 + x4).toNatClampNeg))] σ (qI (fun r2 σ3 => ((¬ r2 = 0 → (vp_in x4 20 ∧ VM g (d + 1) M_X4_takeRow (qI F) 3 [(0, vR 0), (1, vR (2 + k)), (2, vI x2), (3, vI x3), (4, vI (x4 + 1))] [] (sU σ3 22 x4.toNatClampNeg (σ (6 + k) ((x2 + x4).toNatClampNeg))))) ∧ (r2 = 0 → F 0 σ3))))))))) : VM g (d + 1) M_X4_takeRow (qI F) 3 [(0, vR 0), (1, vR (2 + k)), (2, vI x2), (3, vI x3), (4, vI x4)] [] σ := by
  refine VE_iload 4 dX4_takeRow_3 (k := ?_)
  refine VE_iload_n 3 dX4_takeRow_5 (k := ?_)
  refine VE_icmp_ge 49 dX4_takeRow_6 (fun c1 => ?_) (fun c1 => ?_)
  · refine VE_aload_n 0 dX4_takeRow_49 (k := ?_)
    refine VE_iload_n 3 dX4_takeRow_50 (k := ?_)
    refine VE_put dX4_takeRow_51 fl_X4_202 ?_
    refine VE_iconst 1 dX4_takeRow_54 (k := ?_)
    exact VM_zret dX4_takeRow_55 (h.1 c1) (by decide)
  · refine VE_aload_n 1 dX4_takeRow_9 (k := ?_)
    refine VE_getR (6 + k) dX4_takeRow_10 fl_X4_145 ?_ (sh_f0 hk)
    refine VE_iload_n 2 dX4_takeRow_13 (k := ?_)
    refine VE_iload 4 dX4_takeRow_14 (k := ?_)
    refine VE_iadd dX4_takeRow_16 ?_
    refine VE_iald dX4_takeRow_17 (sh_in hk (h.2 c1).1) ?_ (sh_A hk)
    refine VE_istore (ls' := [(5, vI (σ (6 + k) ((x2 + x4).toNatClampNeg))), (0, vR 0), (1, vR (2 + k)), (2, vI x2), (3, vI x3), (4, vI x4)]) dX4_takeRow_18 ?_
    refine VE_aload_n 1 dX4_takeRow_20 (k := ?_)
    refine VE_getR 10 dX4_takeRow_21 fl_X4_21 ?_
    refine VE_iload 0 dX4_takeRow_24 (k := ?_)
    refine VE_cVi [vI (σ (6 + k) ((x2 + x4).toNatClampNeg))] dX4_takeRow_26 ml_X4_64 (h.2 c1).2 (fun r2 σ3 h4 => ?_) (rok_D d)
    refine VE_if_ne 34 dX4_takeRow_29 (fun c5 => ?_) (fun c5 => ?_)
    · refine VE_aload_n 1 dX4_takeRow_34 (k := ?_)
      refine VE_getR 22 dX4_takeRow_35 fl_X4_39 ?_
      refine VE_iload 5 dX4_takeRow_38 (k := ?_)
      refine VE_iload 0 dX4_takeRow_40 (k := ?_)
      refine VE_iast dX4_takeRow_42 (h4.1 c5).1 ?_
      refine VE_iinc 5 (x4 + 1) (ls' := [(4, vI (x4 + 1)), (5, vI (σ (6 + k) ((x2 + x4).toNatClampNeg))), (0, vR 0), (1, vR (2 + k)), (2, vI x2), (3, vI x3)]) dX4_takeRow_43 ?_
      refine VE_goto 3 dX4_takeRow_46 ?_
      exact VE_sub [2, 3, 4, 5, 0] rfl (h4.1 c5).2
    · refine VE_iconst 0 dX4_takeRow_32 (k := ?_)
      exact VM_zret dX4_takeRow_33 (h4.2 c5) (by decide)
theorem dX4_firstWrong_0 : decode cX4_firstWrong 0 = .ok (.aload_n 0, 1) := by decide +kernel
theorem dX4_firstWrong_1 : decode cX4_firstWrong 1 = .ok (.getfield 28, 3) := by decide +kernel
theorem dX4_firstWrong_4 : decode cX4_firstWrong 4 = .ok (.aload_n 0, 1) := by decide +kernel
theorem dX4_firstWrong_5 : decode cX4_firstWrong 5 = .ok (.getfield 21, 3) := by decide +kernel
theorem dX4_firstWrong_8 : decode cX4_firstWrong 8 = .ok (.invokevirtual 102, 3) := by decide +kernel
theorem dX4_firstWrong_11 : decode cX4_firstWrong 11 = .ok (.iconst 0, 1) := by decide +kernel
theorem dX4_firstWrong_12 : decode cX4_firstWrong 12 = .ok (.istore_n 1, 1) := by decide +kernel
theorem dX4_firstWrong_13 : decode cX4_firstWrong 13 = .ok (.iload_n 1, 1) := by decide +kernel
theorem dX4_firstWrong_14 : decode cX4_firstWrong 14 = .ok (.aload_n 0, 1) := by decide +kernel
theorem dX4_firstWrong_15 : decode cX4_firstWrong 15 = .ok (.getfield 202, 3) := by decide +kernel
theorem dX4_firstWrong_18 : decode cX4_firstWrong 18 = .ok (.if_icmp .ge 27, 3) := by decide +kernel
theorem dX4_firstWrong_21 : decode cX4_firstWrong 21 = .ok (.aload_n 0, 1) := by decide +kernel
theorem dX4_firstWrong_22 : decode cX4_firstWrong 22 = .ok (.getfield 28, 3) := by decide +kernel
theorem dX4_firstWrong_25 : decode cX4_firstWrong 25 = .ok (.aload_n 0, 1) := by decide +kernel
theorem dX4_firstWrong_26 : decode cX4_firstWrong 26 = .ok (.getfield 39, 3) := by decide +kernel
theorem dX4_firstWrong_29 : decode cX4_firstWrong 29 = .ok (.iload_n 1, 1) := by decide +kernel
theorem dX4_firstWrong_30 : decode cX4_firstWrong 30 = .ok (.iaload, 1) := by decide +kernel
theorem dX4_firstWrong_31 : decode cX4_firstWrong 31 = .ok (.invokevirtual 205, 3) := by decide +kernel
theorem dX4_firstWrong_34 : decode cX4_firstWrong 34 = .ok (.ifCond .ne 5, 3) := by decide +kernel
theorem dX4_firstWrong_37 : decode cX4_firstWrong 37 = .ok (.iload_n 1, 1) := by decide +kernel
theorem dX4_firstWrong_38 : decode cX4_firstWrong 38 = .ok (.ireturn, 1) := by decide +kernel
theorem dX4_firstWrong_39 : decode cX4_firstWrong 39 = .ok (.iinc 1 1, 3) := by decide +kernel
theorem dX4_firstWrong_42 : decode cX4_firstWrong 42 = .ok (.goto (-29), 3) := by decide +kernel
theorem dX4_firstWrong_45 : decode cX4_firstWrong 45 = .ok (.bipush (-9), 2) := by decide +kernel
theorem dX4_firstWrong_47 : decode cX4_firstWrong 47 = .ok (.ireturn, 1) := by decide +kernel
set_option maxRecDepth 20000 in
theorem S_X4_firstWrong_0 {g : GG} {d : Nat} {F : Int32 → St → Prop}  (σ : St) (h : (ME g d M_X1_open [vR 14, vR 10] σ (qV (fun σ2 => VM g (d + 1) M_X4_firstWrong (qI F) 13 [(0, vR 0), (1, vI 0)] [] σ2)))) : VM g (d + 1) M_X4_firstWrong (qI F) 0 [(0, vR 0)] [] σ := by
  refine VE_aload_n 0 dX4_firstWrong_0 (k := ?_)
  refine VE_getR 14 dX4_firstWrong_1 fl_X4_28 ?_
  refine VE_aload_n 0 dX4_firstWrong_4 (k := ?_)
  refine VE_getR 10 dX4_firstWrong_5 fl_X4_21 ?_
  refine VE_cVv [vR 10] dX4_firstWrong_8 ml_X4_102 h (fun σ2 h3 => ?_) (rok_D d)
  refine VE_iconst 0 dX4_firstWrong_11 (k := ?_)
  refine VE_istore_n (ls' := [(1, vI 0), (0, vR 0)]) dX4_firstWrong_12 ?_
  exact VE_sub [1, 0] rfl h3
set_option maxRecDepth 20000 in
theorem S_X4_firstWrong_13 {g : GG} {d : Nat} {F : Int32 → St → Prop} (x1 : Int32) (σ : St) (h : (((σ 0 5) ≤ x1 → F (-9) σ) ∧ (¬ (σ 0 5) ≤ x1 → (vp_in x1 20 ∧ (ME g d M_X1_receives [vR 14, vI (σ 22 x1.toNatClampNeg)] σ (qI (fun r2 σ3 => ((¬ r2 = 0 → VM g (d + 1) M_X4_firstWrong (qI F) 13 [(0, vR 0), (1, vI (x1 + 1))] [] σ3) ∧ (r2 = 0 → F x1 σ3))))))))) : VM g (d + 1) M_X4_firstWrong (qI F) 13 [(0, vR 0), (1, vI x1)] [] σ := by
  refine VE_iload_n 1 dX4_firstWrong_13 (k := ?_)
  refine VE_aload_n 0 dX4_firstWrong_14 (k := ?_)
  refine VE_getI dX4_firstWrong_15 fl_X4_202 ?_
  refine VE_icmp_ge 45 dX4_firstWrong_18 (fun c1 => ?_) (fun c1 => ?_)
  · refine VE_bipush (-9) dX4_firstWrong_45 (k := ?_)
    exact VM_iret dX4_firstWrong_47 (h.1 c1)
  · refine VE_aload_n 0 dX4_firstWrong_21 (k := ?_)
    refine VE_getR 14 dX4_firstWrong_22 fl_X4_28 ?_
    refine VE_aload_n 0 dX4_firstWrong_25 (k := ?_)
    refine VE_getR 22 dX4_firstWrong_26 fl_X4_39 ?_
    refine VE_iload_n 1 dX4_firstWrong_29 (k := ?_)
    refine VE_iald dX4_firstWrong_30 (h.2 c1).1 ?_
    refine VE_cVi [vI (σ 22 x1.toNatClampNeg)] dX4_firstWrong_31 ml_X4_205 (h.2 c1).2 (fun r2 σ3 h4 => ?_) (rok_D d)
    refine VE_if_ne 39 dX4_firstWrong_34 (fun c5 => ?_) (fun c5 => ?_)
    · refine VE_iinc 1 (x1 + 1) (ls' := [(1, vI (x1 + 1)), (0, vR 0)]) dX4_firstWrong_39 ?_
      refine VE_goto 13 dX4_firstWrong_42 ?_
      exact VE_sub [1, 0] rfl (h4.1 c5)
    · refine VE_iload_n 1 dX4_firstWrong_37 (k := ?_)
      exact VM_iret dX4_firstWrong_38 (h4.2 c5)
theorem dX4_answerOfHall_0 : decode cX4_answerOfHall 0 = .ok (.iload_n 1, 1) := by decide +kernel
theorem dX4_answerOfHall_1 : decode cX4_answerOfHall 1 = .ok (.tableswitch 55 0 3 #[31, 55, 39, 47], 31) := by decide +kernel
theorem dX4_answerOfHall_32 : decode cX4_answerOfHall 32 = .ok (.aload_n 0, 1) := by decide +kernel
theorem dX4_answerOfHall_33 : decode cX4_answerOfHall 33 = .ok (.getfield 28, 3) := by decide +kernel
theorem dX4_answerOfHall_36 : decode cX4_answerOfHall 36 = .ok (.invokevirtual 208, 3) := by decide +kernel
theorem dX4_answerOfHall_39 : decode cX4_answerOfHall 39 = .ok (.ireturn, 1) := by decide +kernel
theorem dX4_answerOfHall_40 : decode cX4_answerOfHall 40 = .ok (.aload_n 0, 1) := by decide +kernel
theorem dX4_answerOfHall_41 : decode cX4_answerOfHall 41 = .ok (.getfield 28, 3) := by decide +kernel
theorem dX4_answerOfHall_44 : decode cX4_answerOfHall 44 = .ok (.invokevirtual 211, 3) := by decide +kernel
theorem dX4_answerOfHall_47 : decode cX4_answerOfHall 47 = .ok (.ireturn, 1) := by decide +kernel
theorem dX4_answerOfHall_48 : decode cX4_answerOfHall 48 = .ok (.aload_n 0, 1) := by decide +kernel
theorem dX4_answerOfHall_49 : decode cX4_answerOfHall 49 = .ok (.getfield 28, 3) := by decide +kernel
theorem dX4_answerOfHall_52 : decode cX4_answerOfHall 52 = .ok (.getfield 214, 3) := by decide +kernel
theorem dX4_answerOfHall_55 : decode cX4_answerOfHall 55 = .ok (.ireturn, 1) := by decide +kernel
theorem dX4_answerOfHall_56 : decode cX4_answerOfHall 56 = .ok (.aload_n 0, 1) := by decide +kernel
theorem dX4_answerOfHall_57 : decode cX4_answerOfHall 57 = .ok (.getfield 28, 3) := by decide +kernel
theorem dX4_answerOfHall_60 : decode cX4_answerOfHall 60 = .ok (.invokevirtual 217, 3) := by decide +kernel
theorem dX4_answerOfHall_63 : decode cX4_answerOfHall 63 = .ok (.ireturn, 1) := by decide +kernel
set_option maxRecDepth 20000 in
theorem S_X4_answerOfHall_0 {g : GG} {d : Nat} {F : Int32 → St → Prop} (a1 : Int32) (σ : St) (h : ((a1 = 0 → (ME g d M_X1_ownWearers [vR 14] σ (qI (fun r5 σ6 => F r5 σ6)))) ∧ (¬ a1 = 0 → ((a1 = 1 → (ME g d M_X1_mostTaken [vR 14] σ (qI (fun r8 σ9 => F r8 σ9)))) ∧ (¬ a1 = 1 → ((a1 = 2 → (ME g d M_X1_visitsHome [vR 14] σ (qI (fun r11 σ12 => F r11 σ12)))) ∧ (¬ a1 = 2 → ((a1 = 3 → F (σ 14 4) σ) ∧ (¬ a1 = 3 → (ME g d M_X1_mostTaken [vR 14] σ (qI (fun r14 σ15 => F r14 σ15)))))))))))) : VM g (d + 1) M_X4_answerOfHall (qI F) 0 [(0, vR 0), (1, vI a1)] [] σ := by
  refine VE_iload_n 1 dX4_answerOfHall_0 (k := ?_)
  by_cases c1 : a1 = 0
  · refine VE_tableIn 32 dX4_answerOfHall_1 (by rw [c1]; decide) (by rw [c1]; decide) (by rw [c1]; rfl) ?_
    refine VE_aload_n 0 dX4_answerOfHall_32 (k := ?_)
    refine VE_getR 14 dX4_answerOfHall_33 fl_X4_28 ?_
    refine VE_cVi [] dX4_answerOfHall_36 ml_X4_208 (h.1 c1) (fun r5 σ6 h7 => ?_) (rok_D d)
    exact VM_iret dX4_answerOfHall_39 h7
  · by_cases c2 : a1 = 1
    · refine VE_tableIn 56 dX4_answerOfHall_1 (by rw [c2]; decide) (by rw [c2]; decide) (by rw [c2]; rfl) ?_
      refine VE_aload_n 0 dX4_answerOfHall_56 (k := ?_)
      refine VE_getR 14 dX4_answerOfHall_57 fl_X4_28 ?_
      refine VE_cVi [] dX4_answerOfHall_60 ml_X4_217 ((h.2 c1).1 c2) (fun r8 σ9 h10 => ?_) (rok_D d)
      exact VM_iret dX4_answerOfHall_63 h10
    · by_cases c3 : a1 = 2
      · refine VE_tableIn 40 dX4_answerOfHall_1 (by rw [c3]; decide) (by rw [c3]; decide) (by rw [c3]; rfl) ?_
        refine VE_aload_n 0 dX4_answerOfHall_40 (k := ?_)
        refine VE_getR 14 dX4_answerOfHall_41 fl_X4_28 ?_
        refine VE_cVi [] dX4_answerOfHall_44 ml_X4_211 (((h.2 c1).2 c2).1 c3) (fun r11 σ12 h13 => ?_) (rok_D d)
        exact VM_iret dX4_answerOfHall_47 h13
      · by_cases c4 : a1 = 3
        · refine VE_tableIn 48 dX4_answerOfHall_1 (by rw [c4]; decide) (by rw [c4]; decide) (by rw [c4]; rfl) ?_
          refine VE_aload_n 0 dX4_answerOfHall_48 (k := ?_)
          refine VE_getR 14 dX4_answerOfHall_49 fl_X4_28 ?_
          refine VE_getI dX4_answerOfHall_52 fl_X4_214 ?_
          exact VM_iret dX4_answerOfHall_55 ((((h.2 c1).2 c2).2 c3).1 c4)
        · refine VE_tableOut 56 dX4_answerOfHall_1 (by have e0 : ¬ a1.toInt = 0 := i32_ne c1; have e1 : ¬ a1.toInt = 1 := i32_ne c2; have e2 : ¬ a1.toInt = 2 := i32_ne c3; have e3 : ¬ a1.toInt = 3 := i32_ne c4; omega) ?_
          refine VE_aload_n 0 dX4_answerOfHall_56 (k := ?_)
          refine VE_getR 14 dX4_answerOfHall_57 fl_X4_28 ?_
          refine VE_cVi [] dX4_answerOfHall_60 ml_X4_217 ((((h.2 c1).2 c2).2 c3).2 c4) (fun r14 σ15 h16 => ?_) (rok_D d)
          exact VM_iret dX4_answerOfHall_63 h16
theorem dX4_answerOfHead_0 : decode cX4_answerOfHead 0 = .ok (.aload_n 0, 1) := by decide +kernel
theorem dX4_answerOfHead_1 : decode cX4_answerOfHead 1 = .ok (.getfield 21, 3) := by decide +kernel
theorem dX4_answerOfHead_4 : decode cX4_answerOfHead 4 = .ok (.iload_n 2, 1) := by decide +kernel
theorem dX4_answerOfHead_5 : decode cX4_answerOfHead 5 = .ok (.invokevirtual 64, 3) := by decide +kernel
theorem dX4_answerOfHead_8 : decode cX4_answerOfHead 8 = .ok (.ifCond .ne 6, 3) := by decide +kernel
theorem dX4_answerOfHead_11 : decode cX4_answerOfHead 11 = .ok (.bipush (-9), 2) := by decide +kernel
theorem dX4_answerOfHead_13 : decode cX4_answerOfHead 13 = .ok (.ireturn, 1) := by decide +kernel
theorem dX4_answerOfHead_14 : decode cX4_answerOfHead 14 = .ok (.iload_n 1, 1) := by decide +kernel
theorem dX4_answerOfHead_15 : decode cX4_answerOfHead 15 = .ok (.lookupswitch 45 #[(1, 25), (2, 35)], 25) := by decide +kernel
theorem dX4_answerOfHead_40 : decode cX4_answerOfHead 40 = .ok (.aload_n 0, 1) := by decide +kernel
theorem dX4_answerOfHead_41 : decode cX4_answerOfHead 41 = .ok (.getfield 28, 3) := by decide +kernel
theorem dX4_answerOfHead_44 : decode cX4_answerOfHead 44 = .ok (.getfield 220, 3) := by decide +kernel
theorem dX4_answerOfHead_47 : decode cX4_answerOfHead 47 = .ok (.iload_n 2, 1) := by decide +kernel
theorem dX4_answerOfHead_48 : decode cX4_answerOfHead 48 = .ok (.iaload, 1) := by decide +kernel
theorem dX4_answerOfHead_49 : decode cX4_answerOfHead 49 = .ok (.ireturn, 1) := by decide +kernel
theorem dX4_answerOfHead_50 : decode cX4_answerOfHead 50 = .ok (.aload_n 0, 1) := by decide +kernel
theorem dX4_answerOfHead_51 : decode cX4_answerOfHead 51 = .ok (.getfield 28, 3) := by decide +kernel
theorem dX4_answerOfHead_54 : decode cX4_answerOfHead 54 = .ok (.getfield 223, 3) := by decide +kernel
theorem dX4_answerOfHead_57 : decode cX4_answerOfHead 57 = .ok (.iload_n 2, 1) := by decide +kernel
theorem dX4_answerOfHead_58 : decode cX4_answerOfHead 58 = .ok (.iaload, 1) := by decide +kernel
theorem dX4_answerOfHead_59 : decode cX4_answerOfHead 59 = .ok (.ireturn, 1) := by decide +kernel
theorem dX4_answerOfHead_60 : decode cX4_answerOfHead 60 = .ok (.aload_n 0, 1) := by decide +kernel
theorem dX4_answerOfHead_61 : decode cX4_answerOfHead 61 = .ok (.getfield 28, 3) := by decide +kernel
theorem dX4_answerOfHead_64 : decode cX4_answerOfHead 64 = .ok (.iload_n 2, 1) := by decide +kernel
theorem dX4_answerOfHead_65 : decode cX4_answerOfHead 65 = .ok (.aload_n 0, 1) := by decide +kernel
theorem dX4_answerOfHead_66 : decode cX4_answerOfHead 66 = .ok (.getfield 21, 3) := by decide +kernel
theorem dX4_answerOfHead_69 : decode cX4_answerOfHead 69 = .ok (.getfield 74, 3) := by decide +kernel
theorem dX4_answerOfHead_72 : decode cX4_answerOfHead 72 = .ok (.iload_n 2, 1) := by decide +kernel
theorem dX4_answerOfHead_73 : decode cX4_answerOfHead 73 = .ok (.iaload, 1) := by decide +kernel
theorem dX4_answerOfHead_74 : decode cX4_answerOfHead 74 = .ok (.invokevirtual 226, 3) := by decide +kernel
theorem dX4_answerOfHead_77 : decode cX4_answerOfHead 77 = .ok (.ireturn, 1) := by decide +kernel
set_option maxRecDepth 20000 in
theorem S_X4_answerOfHead_0 {g : GG} {d : Nat} {F : Int32 → St → Prop} (a1 : Int32) (a2 : Int32) (σ : St) (h : (ME g d M_X0_has [vR 10, vI a2] σ (qI (fun r1 σ2 => ((¬ r1 = 0 → ((a1 = 1 → (vp_in a2 5 ∧ F (σ2 15 a2.toNatClampNeg) σ2)) ∧ (¬ a1 = 1 → ((a1 = 2 → (vp_in a2 5 ∧ F (σ2 16 a2.toNatClampNeg) σ2)) ∧ (¬ a1 = 2 → (vp_in a2 5 ∧ (ME g d M_X1_fooling [vR 14, vI a2, vI (σ2 13 a2.toNatClampNeg)] σ2 (qI (fun r7 σ8 => F r7 σ8))))))))) ∧ (r1 = 0 → F (-9) σ2)))))) : VM g (d + 1) M_X4_answerOfHead (qI F) 0 [(0, vR 0), (1, vI a1), (2, vI a2)] [] σ := by
  refine VE_aload_n 0 dX4_answerOfHead_0 (k := ?_)
  refine VE_getR 10 dX4_answerOfHead_1 fl_X4_21 ?_
  refine VE_iload_n 2 dX4_answerOfHead_4 (k := ?_)
  refine VE_cVi [vI a2] dX4_answerOfHead_5 ml_X4_64 h (fun r1 σ2 h3 => ?_) (rok_D d)
  refine VE_if_ne 14 dX4_answerOfHead_8 (fun c4 => ?_) (fun c4 => ?_)
  · refine VE_iload_n 1 dX4_answerOfHead_14 (k := ?_)
    by_cases c5 : a1 = 1
    · refine VE_lookup (off := 25) 40 dX4_answerOfHead_15 (by decide) (by rw [c5]; first | done | rfl) ?_
      refine VE_aload_n 0 dX4_answerOfHead_40 (k := ?_)
      refine VE_getR 14 dX4_answerOfHead_41 fl_X4_28 ?_
      refine VE_getR 15 dX4_answerOfHead_44 fl_X4_220 ?_
      refine VE_iload_n 2 dX4_answerOfHead_47 (k := ?_)
      refine VE_iald dX4_answerOfHead_48 ((h3.1 c4).1 c5).1 ?_
      exact VM_iret dX4_answerOfHead_49 ((h3.1 c4).1 c5).2
    · by_cases c6 : a1 = 2
      · refine VE_lookup (off := 35) 50 dX4_answerOfHead_15 (by decide) (by rw [c6]; first | done | rfl) ?_
        refine VE_aload_n 0 dX4_answerOfHead_50 (k := ?_)
        refine VE_getR 14 dX4_answerOfHead_51 fl_X4_28 ?_
        refine VE_getR 16 dX4_answerOfHead_54 fl_X4_223 ?_
        refine VE_iload_n 2 dX4_answerOfHead_57 (k := ?_)
        refine VE_iald dX4_answerOfHead_58 (((h3.1 c4).2 c5).1 c6).1 ?_
        exact VM_iret dX4_answerOfHead_59 (((h3.1 c4).2 c5).1 c6).2
      · refine VE_lookup (off := 45) 60 dX4_answerOfHead_15 (by decide) ((lv_osw c5 rfl).trans (lv_osw c6 rfl)) ?_
        refine VE_aload_n 0 dX4_answerOfHead_60 (k := ?_)
        refine VE_getR 14 dX4_answerOfHead_61 fl_X4_28 ?_
        refine VE_iload_n 2 dX4_answerOfHead_64 (k := ?_)
        refine VE_aload_n 0 dX4_answerOfHead_65 (k := ?_)
        refine VE_getR 10 dX4_answerOfHead_66 fl_X4_21 ?_
        refine VE_getR 13 dX4_answerOfHead_69 fl_X4_74 ?_
        refine VE_iload_n 2 dX4_answerOfHead_72 (k := ?_)
        refine VE_iald dX4_answerOfHead_73 (((h3.1 c4).2 c5).2 c6).1 ?_
        refine VE_cVi [vI a2, vI (σ2 13 a2.toNatClampNeg)] dX4_answerOfHead_74 ml_X4_226 (((h3.1 c4).2 c5).2 c6).2 (fun r7 σ8 h9 => ?_) (rok_D d)
        exact VM_iret dX4_answerOfHead_77 h9
  · refine VE_bipush (-9) dX4_answerOfHead_11 (k := ?_)
    exact VM_iret dX4_answerOfHead_13 (h3.2 c4)
theorem dX4_bitIfAllSo_0 : decode cX4_bitIfAllSo 0 = .ok (.aload_n 0, 1) := by decide +kernel
theorem dX4_bitIfAllSo_1 : decode cX4_bitIfAllSo 1 = .ok (.invokevirtual 229, 3) := by decide +kernel
theorem dX4_bitIfAllSo_4 : decode cX4_bitIfAllSo 4 = .ok (.ifCond .eq 9, 3) := by decide +kernel
theorem dX4_bitIfAllSo_7 : decode cX4_bitIfAllSo 7 = .ok (.iconst 1, 1) := by decide +kernel
theorem dX4_bitIfAllSo_8 : decode cX4_bitIfAllSo 8 = .ok (.iload_n 1, 1) := by decide +kernel
theorem dX4_bitIfAllSo_9 : decode cX4_bitIfAllSo 9 = .ok (.ishl, 1) := by decide +kernel
theorem dX4_bitIfAllSo_10 : decode cX4_bitIfAllSo 10 = .ok (.goto 4, 3) := by decide +kernel
theorem dX4_bitIfAllSo_13 : decode cX4_bitIfAllSo 13 = .ok (.iconst 0, 1) := by decide +kernel
theorem dX4_bitIfAllSo_14 : decode cX4_bitIfAllSo 14 = .ok (.ireturn, 1) := by decide +kernel
set_option maxRecDepth 20000 in
theorem S_X4_bitIfAllSo_0 {g : GG} {d : Nat} {F : Int32 → St → Prop} (a1 : Int32) (σ : St) (h : (ME g d M_X4_allSo [vR 0] σ (qI (fun r1 σ2 => ((r1 = 0 → F 0 σ2) ∧ (¬ r1 = 0 → F (1 <<< (a1 &&& 31)) σ2)))))) : VM g (d + 1) M_X4_bitIfAllSo (qI F) 0 [(0, vR 0), (1, vI a1)] [] σ := by
  refine VE_aload_n 0 dX4_bitIfAllSo_0 (k := ?_)
  refine VE_cVi [] dX4_bitIfAllSo_1 ml_X4_229 h (fun r1 σ2 h3 => ?_) (rok_D d)
  refine VE_if_eq 13 dX4_bitIfAllSo_4 (fun c4 => ?_) (fun c4 => ?_)
  · refine VE_iconst 0 dX4_bitIfAllSo_13 (k := ?_)
    exact VM_iret dX4_bitIfAllSo_14 (h3.1 c4)
  · refine VE_iconst 1 dX4_bitIfAllSo_7 (k := ?_)
    refine VE_iload_n 1 dX4_bitIfAllSo_8 (k := ?_)
    refine VE_ishl dX4_bitIfAllSo_9 ?_
    refine VE_goto 14 dX4_bitIfAllSo_10 ?_
    exact VM_iret dX4_bitIfAllSo_14 (h3.2 c4)
theorem dX4_allSo_0 : decode cX4_allSo 0 = .ok (.aload_n 0, 1) := by decide +kernel
theorem dX4_allSo_1 : decode cX4_allSo 1 = .ok (.getfield 35, 3) := by decide +kernel
theorem dX4_allSo_4 : decode cX4_allSo 4 = .ok (.aload_n 0, 1) := by decide +kernel
theorem dX4_allSo_5 : decode cX4_allSo 5 = .ok (.getfield 202, 3) := by decide +kernel
theorem dX4_allSo_8 : decode cX4_allSo 8 = .ok (.invokevirtual 232, 3) := by decide +kernel
theorem dX4_allSo_11 : decode cX4_allSo 11 = .ok (.ifCond .ne 18, 3) := by decide +kernel
theorem dX4_allSo_14 : decode cX4_allSo 14 = .ok (.aload_n 0, 1) := by decide +kernel
theorem dX4_allSo_15 : decode cX4_allSo 15 = .ok (.getfield 35, 3) := by decide +kernel
theorem dX4_allSo_18 : decode cX4_allSo 18 = .ok (.iconst 0, 1) := by decide +kernel
theorem dX4_allSo_19 : decode cX4_allSo 19 = .ok (.aload_n 0, 1) := by decide +kernel
theorem dX4_allSo_20 : decode cX4_allSo 20 = .ok (.getfield 28, 3) := by decide +kernel
theorem dX4_allSo_23 : decode cX4_allSo 23 = .ok (.invokevirtual 235, 3) := by decide +kernel
theorem dX4_allSo_26 : decode cX4_allSo 26 = .ok (.ifCond .ne 5, 3) := by decide +kernel
theorem dX4_allSo_29 : decode cX4_allSo 29 = .ok (.iconst 0, 1) := by decide +kernel
theorem dX4_allSo_30 : decode cX4_allSo 30 = .ok (.ireturn, 1) := by decide +kernel
theorem dX4_allSo_31 : decode cX4_allSo 31 = .ok (.iconst 0, 1) := by decide +kernel
theorem dX4_allSo_32 : decode cX4_allSo 32 = .ok (.istore_n 1, 1) := by decide +kernel
theorem dX4_allSo_33 : decode cX4_allSo 33 = .ok (.iload_n 1, 1) := by decide +kernel
theorem dX4_allSo_34 : decode cX4_allSo 34 = .ok (.aload_n 0, 1) := by decide +kernel
theorem dX4_allSo_35 : decode cX4_allSo 35 = .ok (.getfield 202, 3) := by decide +kernel
theorem dX4_allSo_38 : decode cX4_allSo 38 = .ok (.if_icmp .ge 44, 3) := by decide +kernel
theorem dX4_allSo_41 : decode cX4_allSo 41 = .ok (.aload_n 0, 1) := by decide +kernel
theorem dX4_allSo_42 : decode cX4_allSo 42 = .ok (.getfield 28, 3) := by decide +kernel
theorem dX4_allSo_45 : decode cX4_allSo 45 = .ok (.aload_n 0, 1) := by decide +kernel
theorem dX4_allSo_46 : decode cX4_allSo 46 = .ok (.getfield 39, 3) := by decide +kernel
theorem dX4_allSo_49 : decode cX4_allSo 49 = .ok (.iload_n 1, 1) := by decide +kernel
theorem dX4_allSo_50 : decode cX4_allSo 50 = .ok (.iaload, 1) := by decide +kernel
theorem dX4_allSo_51 : decode cX4_allSo 51 = .ok (.invokevirtual 205, 3) := by decide +kernel
theorem dX4_allSo_54 : decode cX4_allSo 54 = .ok (.ifCond .eq 20, 3) := by decide +kernel
theorem dX4_allSo_57 : decode cX4_allSo 57 = .ok (.aload_n 0, 1) := by decide +kernel
theorem dX4_allSo_58 : decode cX4_allSo 58 = .ok (.getfield 35, 3) := by decide +kernel
theorem dX4_allSo_61 : decode cX4_allSo 61 = .ok (.iload_n 1, 1) := by decide +kernel
theorem dX4_allSo_62 : decode cX4_allSo 62 = .ok (.iconst 1, 1) := by decide +kernel
theorem dX4_allSo_63 : decode cX4_allSo 63 = .ok (.iadd, 1) := by decide +kernel
theorem dX4_allSo_64 : decode cX4_allSo 64 = .ok (.aload_n 0, 1) := by decide +kernel
theorem dX4_allSo_65 : decode cX4_allSo 65 = .ok (.getfield 28, 3) := by decide +kernel
theorem dX4_allSo_68 : decode cX4_allSo 68 = .ok (.invokevirtual 235, 3) := by decide +kernel
theorem dX4_allSo_71 : decode cX4_allSo 71 = .ok (.ifCond .ne 5, 3) := by decide +kernel
theorem dX4_allSo_74 : decode cX4_allSo 74 = .ok (.iconst 0, 1) := by decide +kernel
theorem dX4_allSo_75 : decode cX4_allSo 75 = .ok (.ireturn, 1) := by decide +kernel
theorem dX4_allSo_76 : decode cX4_allSo 76 = .ok (.iinc 1 1, 3) := by decide +kernel
theorem dX4_allSo_79 : decode cX4_allSo 79 = .ok (.goto (-46), 3) := by decide +kernel
theorem dX4_allSo_82 : decode cX4_allSo 82 = .ok (.iconst 1, 1) := by decide +kernel
theorem dX4_allSo_83 : decode cX4_allSo 83 = .ok (.ireturn, 1) := by decide +kernel
set_option maxRecDepth 20000 in
theorem S_X4_allSo_0 {g : GG} {d : Nat} {F : Int32 → St → Prop}  (σ : St) (h : (ME g d M_X2_reachBeyond [vR 18, vI (σ 0 5)] σ (qI (fun r1 σ2 => ((¬ r1 = 0 → F 0 σ2) ∧ (r1 = 0 → (ME g d M_X2_areSo [vR 18, vI 0, vR 14] σ2 (qI (fun r5 σ6 => ((¬ r5 = 0 → VM g (d + 1) M_X4_allSo (qI F) 33 [(0, vR 0), (1, vI 0)] [] σ6) ∧ (r5 = 0 → F 0 σ6))))))))))) : VM g (d + 1) M_X4_allSo (qI F) 0 [(0, vR 0)] [] σ := by
  refine VE_aload_n 0 dX4_allSo_0 (k := ?_)
  refine VE_getR 18 dX4_allSo_1 fl_X4_35 ?_
  refine VE_aload_n 0 dX4_allSo_4 (k := ?_)
  refine VE_getI dX4_allSo_5 fl_X4_202 ?_
  refine VE_cVi [vI (σ 0 5)] dX4_allSo_8 ml_X4_232 h (fun r1 σ2 h3 => ?_) (rok_D d)
  refine VE_if_ne 29 dX4_allSo_11 (fun c4 => ?_) (fun c4 => ?_)
  · refine VE_iconst 0 dX4_allSo_29 (k := ?_)
    exact VM_zret dX4_allSo_30 (h3.1 c4) (by decide)
  · refine VE_aload_n 0 dX4_allSo_14 (k := ?_)
    refine VE_getR 18 dX4_allSo_15 fl_X4_35 ?_
    refine VE_iconst 0 dX4_allSo_18 (k := ?_)
    refine VE_aload_n 0 dX4_allSo_19 (k := ?_)
    refine VE_getR 14 dX4_allSo_20 fl_X4_28 ?_
    refine VE_cVi [vI 0, vR 14] dX4_allSo_23 ml_X4_235 (h3.2 c4) (fun r5 σ6 h7 => ?_) (rok_D d)
    refine VE_if_ne 31 dX4_allSo_26 (fun c8 => ?_) (fun c8 => ?_)
    · refine VE_iconst 0 dX4_allSo_31 (k := ?_)
      refine VE_istore_n (ls' := [(1, vI 0), (0, vR 0)]) dX4_allSo_32 ?_
      exact VE_sub [1, 0] rfl (h7.1 c8)
    · refine VE_iconst 0 dX4_allSo_29 (k := ?_)
      exact VM_zret dX4_allSo_30 (h7.2 c8) (by decide)
set_option maxRecDepth 20000 in
theorem S_X4_allSo_33 {g : GG} {d : Nat} {F : Int32 → St → Prop} (x1 : Int32) (σ : St) (h : (((σ 0 5) ≤ x1 → F 1 σ) ∧ (¬ (σ 0 5) ≤ x1 → (vp_in x1 20 ∧ (ME g d M_X1_receives [vR 14, vI (σ 22 x1.toNatClampNeg)] σ (qI (fun r2 σ3 => ((r2 = 0 → F 0 σ3) ∧ (¬ r2 = 0 → (ME g d M_X2_areSo [vR 18, vI (x1 + 1), vR 14] σ3 (qI (fun r6 σ7 => ((¬ r6 = 0 → VM g (d + 1) M_X4_allSo (qI F) 33 [(0, vR 0), (1, vI (x1 + 1))] [] σ7) ∧ (r6 = 0 → F 0 σ7)))))))))))))) : VM g (d + 1) M_X4_allSo (qI F) 33 [(0, vR 0), (1, vI x1)] [] σ := by
  refine VE_iload_n 1 dX4_allSo_33 (k := ?_)
  refine VE_aload_n 0 dX4_allSo_34 (k := ?_)
  refine VE_getI dX4_allSo_35 fl_X4_202 ?_
  refine VE_icmp_ge 82 dX4_allSo_38 (fun c1 => ?_) (fun c1 => ?_)
  · refine VE_iconst 1 dX4_allSo_82 (k := ?_)
    exact VM_zret dX4_allSo_83 (h.1 c1) (by decide)
  · refine VE_aload_n 0 dX4_allSo_41 (k := ?_)
    refine VE_getR 14 dX4_allSo_42 fl_X4_28 ?_
    refine VE_aload_n 0 dX4_allSo_45 (k := ?_)
    refine VE_getR 22 dX4_allSo_46 fl_X4_39 ?_
    refine VE_iload_n 1 dX4_allSo_49 (k := ?_)
    refine VE_iald dX4_allSo_50 (h.2 c1).1 ?_
    refine VE_cVi [vI (σ 22 x1.toNatClampNeg)] dX4_allSo_51 ml_X4_205 (h.2 c1).2 (fun r2 σ3 h4 => ?_) (rok_D d)
    refine VE_if_eq 74 dX4_allSo_54 (fun c5 => ?_) (fun c5 => ?_)
    · refine VE_iconst 0 dX4_allSo_74 (k := ?_)
      exact VM_zret dX4_allSo_75 (h4.1 c5) (by decide)
    · refine VE_aload_n 0 dX4_allSo_57 (k := ?_)
      refine VE_getR 18 dX4_allSo_58 fl_X4_35 ?_
      refine VE_iload_n 1 dX4_allSo_61 (k := ?_)
      refine VE_iconst 1 dX4_allSo_62 (k := ?_)
      refine VE_iadd dX4_allSo_63 ?_
      refine VE_aload_n 0 dX4_allSo_64 (k := ?_)
      refine VE_getR 14 dX4_allSo_65 fl_X4_28 ?_
      refine VE_cVi [vI (x1 + 1), vR 14] dX4_allSo_68 ml_X4_235 (h4.2 c5) (fun r6 σ7 h8 => ?_) (rok_D d)
      refine VE_if_ne 76 dX4_allSo_71 (fun c9 => ?_) (fun c9 => ?_)
      · refine VE_iinc 1 (x1 + 1) (ls' := [(1, vI (x1 + 1)), (0, vR 0)]) dX4_allSo_76 ?_
        refine VE_goto 33 dX4_allSo_79 ?_
        exact VE_sub [1, 0] rfl (h8.1 c9)
      · refine VE_iconst 0 dX4_allSo_74 (k := ?_)
        exact VM_zret dX4_allSo_75 (h8.2 c9) (by decide)
theorem dX4_rowsTo_0 : decode cX4_rowsTo 0 = .ok (.iload_n 3, 1) := by decide +kernel
theorem dX4_rowsTo_1 : decode cX4_rowsTo 1 = .ok (.ifCond .gt 19, 3) := by decide +kernel
theorem dX4_rowsTo_4 : decode cX4_rowsTo 4 = .ok (.aload_n 0, 1) := by decide +kernel
theorem dX4_rowsTo_5 : decode cX4_rowsTo 5 = .ok (.getfield 220, 3) := by decide +kernel
theorem dX4_rowsTo_8 : decode cX4_rowsTo 8 = .ok (.iload_n 1, 1) := by decide +kernel
theorem dX4_rowsTo_9 : decode cX4_rowsTo 9 = .ok (.iaload, 1) := by decide +kernel
theorem dX4_rowsTo_10 : decode cX4_rowsTo 10 = .ok (.iload_n 2, 1) := by decide +kernel
theorem dX4_rowsTo_11 : decode cX4_rowsTo 11 = .ok (.if_icmp .ne 7, 3) := by decide +kernel
theorem dX4_rowsTo_14 : decode cX4_rowsTo 14 = .ok (.iconst 1, 1) := by decide +kernel
theorem dX4_rowsTo_15 : decode cX4_rowsTo 15 = .ok (.goto 4, 3) := by decide +kernel
theorem dX4_rowsTo_18 : decode cX4_rowsTo 18 = .ok (.iconst 0, 1) := by decide +kernel
theorem dX4_rowsTo_19 : decode cX4_rowsTo 19 = .ok (.ireturn, 1) := by decide +kernel
theorem dX4_rowsTo_20 : decode cX4_rowsTo 20 = .ok (.iconst 0, 1) := by decide +kernel
theorem dX4_rowsTo_21 : decode cX4_rowsTo 21 = .ok (.istore 4, 2) := by decide +kernel
theorem dX4_rowsTo_23 : decode cX4_rowsTo 23 = .ok (.iconst 0, 1) := by decide +kernel
theorem dX4_rowsTo_24 : decode cX4_rowsTo 24 = .ok (.istore 5, 2) := by decide +kernel
theorem dX4_rowsTo_26 : decode cX4_rowsTo 26 = .ok (.iload 5, 2) := by decide +kernel
theorem dX4_rowsTo_28 : decode cX4_rowsTo 28 = .ok (.aload_n 0, 1) := by decide +kernel
theorem dX4_rowsTo_29 : decode cX4_rowsTo 29 = .ok (.getfield 239, 3) := by decide +kernel
theorem dX4_rowsTo_32 : decode cX4_rowsTo 32 = .ok (.if_icmp .ge 38, 3) := by decide +kernel
theorem dX4_rowsTo_35 : decode cX4_rowsTo 35 = .ok (.aload_n 0, 1) := by decide +kernel
theorem dX4_rowsTo_36 : decode cX4_rowsTo 36 = .ok (.iload 5, 2) := by decide +kernel
theorem dX4_rowsTo_38 : decode cX4_rowsTo 38 = .ok (.invokevirtual 205, 3) := by decide +kernel
theorem dX4_rowsTo_41 : decode cX4_rowsTo 41 = .ok (.ifCond .eq 23, 3) := by decide +kernel
theorem dX4_rowsTo_44 : decode cX4_rowsTo 44 = .ok (.iload 4, 2) := by decide +kernel
theorem dX4_rowsTo_46 : decode cX4_rowsTo 46 = .ok (.aload_n 0, 1) := by decide +kernel
theorem dX4_rowsTo_47 : decode cX4_rowsTo 47 = .ok (.iload_n 1, 1) := by decide +kernel
theorem dX4_rowsTo_48 : decode cX4_rowsTo 48 = .ok (.iload_n 2, 1) := by decide +kernel
theorem dX4_rowsTo_49 : decode cX4_rowsTo 49 = .ok (.iload_n 3, 1) := by decide +kernel
theorem dX4_rowsTo_50 : decode cX4_rowsTo 50 = .ok (.iconst 1, 1) := by decide +kernel
theorem dX4_rowsTo_51 : decode cX4_rowsTo 51 = .ok (.isub, 1) := by decide +kernel
theorem dX4_rowsTo_52 : decode cX4_rowsTo 52 = .ok (.invokestatic 118, 3) := by decide +kernel
theorem dX4_rowsTo_55 : decode cX4_rowsTo 55 = .ok (.iadd, 1) := by decide +kernel
theorem dX4_rowsTo_56 : decode cX4_rowsTo 56 = .ok (.istore 4, 2) := by decide +kernel
theorem dX4_rowsTo_58 : decode cX4_rowsTo 58 = .ok (.aload_n 0, 1) := by decide +kernel
theorem dX4_rowsTo_59 : decode cX4_rowsTo 59 = .ok (.iload 5, 2) := by decide +kernel
theorem dX4_rowsTo_61 : decode cX4_rowsTo 61 = .ok (.invokevirtual 241, 3) := by decide +kernel
theorem dX4_rowsTo_64 : decode cX4_rowsTo 64 = .ok (.iinc 5 1, 3) := by decide +kernel
theorem dX4_rowsTo_67 : decode cX4_rowsTo 67 = .ok (.goto (-41), 3) := by decide +kernel
theorem dX4_rowsTo_70 : decode cX4_rowsTo 70 = .ok (.iload 4, 2) := by decide +kernel
theorem dX4_rowsTo_72 : decode cX4_rowsTo 72 = .ok (.ireturn, 1) := by decide +kernel
set_option maxRecDepth 20000 in
theorem S_X4_rowsTo_0 {g : GG} {d : Nat} {F : Int32 → St → Prop} (a2 : Int32) (a3 : Int32) (a4 : Int32) (σ : St) (h : ((0 < a4 → VM g (d + 1) M_X4_rowsTo (qI F) 26 [(0, vR 14), (1, vI a2), (2, vI a3), (3, vI a4), (4, vI 0), (5, vI 0)] [] σ) ∧ (¬ 0 < a4 → (vp_in a2 5 ∧ ((¬ (σ 15 a2.toNatClampNeg) = a3 → F 0 σ) ∧ ((σ 15 a2.toNatClampNeg) = a3 → F 1 σ)))))) : VM g (d + 1) M_X4_rowsTo (qI F) 0 [(0, vR 14), (1, vI a2), (2, vI a3), (3, vI a4)] [] σ := by
  refine VE_iload_n 3 dX4_rowsTo_0 (k := ?_)
  refine VE_if_gt 20 dX4_rowsTo_1 (fun c1 => ?_) (fun c1 => ?_)
  · refine VE_iconst 0 dX4_rowsTo_20 (k := ?_)
    refine VE_istore (ls' := [(4, vI 0), (0, vR 14), (1, vI a2), (2, vI a3), (3, vI a4)]) dX4_rowsTo_21 ?_
    refine VE_iconst 0 dX4_rowsTo_23 (k := ?_)
    refine VE_istore (ls' := [(5, vI 0), (4, vI 0), (0, vR 14), (1, vI a2), (2, vI a3), (3, vI a4)]) dX4_rowsTo_24 ?_
    exact VE_sub [2, 3, 4, 5, 1, 0] rfl (h.1 c1)
  · refine VE_aload_n 0 dX4_rowsTo_4 (k := ?_)
    refine VE_getR 15 dX4_rowsTo_5 fl_X4_220 ?_
    refine VE_iload_n 1 dX4_rowsTo_8 (k := ?_)
    refine VE_iald dX4_rowsTo_9 (h.2 c1).1 ?_
    refine VE_iload_n 2 dX4_rowsTo_10 (k := ?_)
    refine VE_icmp_ne 18 dX4_rowsTo_11 (fun c2 => ?_) (fun c2 => ?_)
    · refine VE_iconst 0 dX4_rowsTo_18 (k := ?_)
      exact VM_iret dX4_rowsTo_19 ((h.2 c1).2.1 c2)
    · refine VE_iconst 1 dX4_rowsTo_14 (k := ?_)
      refine VE_goto 19 dX4_rowsTo_15 ?_
      exact VM_iret dX4_rowsTo_19 ((h.2 c1).2.2 c2)
set_option maxRecDepth 20000 in
theorem S_X4_rowsTo_26 {g : GG} {d : Nat} {F : Int32 → St → Prop} (x1 : Int32) (x2 : Int32) (x3 : Int32) (x4 : Int32) (x5 : Int32) (σ : St) (h : (((σ 14 3) ≤ x5 → F x4 σ) ∧ (¬ (σ 14 3) ≤ x5 → (ME g d M_X1_receives [vR 14, vI x5] σ (qI (fun r2 σ3 => ((r2 = 0 → VM g (d + 1) M_X4_rowsTo (qI F) 26 [(0, vR 14), (1, vI x1), (2, vI x2), (3, vI x3), (4, vI x4), (5, vI (x5 + 1))] [] σ3) ∧ (¬ r2 = 0 → (ME g d M_X4_rowsTo [vR 14, vI x1, vI x2, vI (x3 - 1)] σ3 (qI (fun r6 σ7 => (ME g d M_X1_takesBack [vR 14, vI x5] σ7 (qV (fun σ10 => VM g (d + 1) M_X4_rowsTo (qI F) 26 [(0, vR 14), (1, vI x1), (2, vI x2), (3, vI x3), (4, vI (x4 + r6)), (5, vI (x5 + 1))] [] σ10)))))))))))))) : VM g (d + 1) M_X4_rowsTo (qI F) 26 [(0, vR 14), (1, vI x1), (2, vI x2), (3, vI x3), (4, vI x4), (5, vI x5)] [] σ := by
  refine VE_iload 5 dX4_rowsTo_26 (k := ?_)
  refine VE_aload_n 0 dX4_rowsTo_28 (k := ?_)
  refine VE_getI dX4_rowsTo_29 fl_X4_239 ?_
  refine VE_icmp_ge 70 dX4_rowsTo_32 (fun c1 => ?_) (fun c1 => ?_)
  · refine VE_iload 4 dX4_rowsTo_70 (k := ?_)
    exact VM_iret dX4_rowsTo_72 (h.1 c1)
  · refine VE_aload_n 0 dX4_rowsTo_35 (k := ?_)
    refine VE_iload 5 dX4_rowsTo_36 (k := ?_)
    refine VE_cVi [vI x5] dX4_rowsTo_38 ml_X4_205 (h.2 c1) (fun r2 σ3 h4 => ?_) (rok_D d)
    refine VE_if_eq 64 dX4_rowsTo_41 (fun c5 => ?_) (fun c5 => ?_)
    · refine VE_iinc 5 (x5 + 1) (ls' := [(5, vI (x5 + 1)), (0, vR 14), (1, vI x1), (2, vI x2), (3, vI x3), (4, vI x4)]) dX4_rowsTo_64 ?_
      refine VE_goto 26 dX4_rowsTo_67 ?_
      exact VE_sub [1, 2, 3, 4, 5, 0] rfl (h4.1 c5)
    · refine VE_iload 4 dX4_rowsTo_44 (k := ?_)
      refine VE_aload_n 0 dX4_rowsTo_46 (k := ?_)
      refine VE_iload_n 1 dX4_rowsTo_47 (k := ?_)
      refine VE_iload_n 2 dX4_rowsTo_48 (k := ?_)
      refine VE_iload_n 3 dX4_rowsTo_49 (k := ?_)
      refine VE_iconst 1 dX4_rowsTo_50 (k := ?_)
      refine VE_isub dX4_rowsTo_51 ?_
      refine VE_cSi [vR 14, vI x1, vI x2, vI (x3 - 1)] dX4_rowsTo_52 ml_X4_118 (h4.2 c5) (fun r6 σ7 h8 => ?_) (rok_D d)
      refine VE_iadd dX4_rowsTo_55 ?_
      refine VE_istore (ls' := [(4, vI (x4 + r6)), (0, vR 14), (1, vI x1), (2, vI x2), (3, vI x3), (5, vI x5)]) dX4_rowsTo_56 ?_
      refine VE_aload_n 1 dX4_rowsTo_58 (k := ?_)
      refine VE_iload 5 dX4_rowsTo_59 (k := ?_)
      refine VE_cVv [vI x5] dX4_rowsTo_61 ml_X4_241 h8 (fun σ10 h11 => ?_) (rok_D d)
      refine VE_iinc 5 (x5 + 1) (ls' := [(5, vI (x5 + 1)), (4, vI (x4 + r6)), (0, vR 14), (1, vI x1), (2, vI x2), (3, vI x3)]) dX4_rowsTo_64 ?_
      refine VE_goto 26 dX4_rowsTo_67 ?_
      exact VE_sub [2, 3, 4, 5, 1, 0] rfl h11
theorem dX4_greatestDivisor_0 : decode cX4_greatestDivisor 0 = .ok (.iload_n 1, 1) := by decide +kernel
theorem dX4_greatestDivisor_1 : decode cX4_greatestDivisor 1 = .ok (.istore_n 2, 1) := by decide +kernel
theorem dX4_greatestDivisor_2 : decode cX4_greatestDivisor 2 = .ok (.iload_n 0, 1) := by decide +kernel
theorem dX4_greatestDivisor_3 : decode cX4_greatestDivisor 3 = .ok (.istore_n 3, 1) := by decide +kernel
theorem dX4_greatestDivisor_4 : decode cX4_greatestDivisor 4 = .ok (.iconst 0, 1) := by decide +kernel
theorem dX4_greatestDivisor_5 : decode cX4_greatestDivisor 5 = .ok (.istore 4, 2) := by decide +kernel
theorem dX4_greatestDivisor_7 : decode cX4_greatestDivisor 7 = .ok (.iload 4, 2) := by decide +kernel
theorem dX4_greatestDivisor_9 : decode cX4_greatestDivisor 9 = .ok (.bipush 100, 2) := by decide +kernel
theorem dX4_greatestDivisor_11 : decode cX4_greatestDivisor 11 = .ok (.if_icmp .ge 23, 3) := by decide +kernel
theorem dX4_greatestDivisor_14 : decode cX4_greatestDivisor 14 = .ok (.iload_n 3, 1) := by decide +kernel
theorem dX4_greatestDivisor_15 : decode cX4_greatestDivisor 15 = .ok (.ifCond .eq 19, 3) := by decide +kernel
theorem dX4_greatestDivisor_18 : decode cX4_greatestDivisor 18 = .ok (.iload_n 2, 1) := by decide +kernel
theorem dX4_greatestDivisor_19 : decode cX4_greatestDivisor 19 = .ok (.iload_n 3, 1) := by decide +kernel
theorem dX4_greatestDivisor_20 : decode cX4_greatestDivisor 20 = .ok (.irem, 1) := by decide +kernel
theorem dX4_greatestDivisor_21 : decode cX4_greatestDivisor 21 = .ok (.istore 5, 2) := by decide +kernel
theorem dX4_greatestDivisor_23 : decode cX4_greatestDivisor 23 = .ok (.iload_n 3, 1) := by decide +kernel
theorem dX4_greatestDivisor_24 : decode cX4_greatestDivisor 24 = .ok (.istore_n 2, 1) := by decide +kernel
theorem dX4_greatestDivisor_25 : decode cX4_greatestDivisor 25 = .ok (.iload 5, 2) := by decide +kernel
theorem dX4_greatestDivisor_27 : decode cX4_greatestDivisor 27 = .ok (.istore_n 3, 1) := by decide +kernel
theorem dX4_greatestDivisor_28 : decode cX4_greatestDivisor 28 = .ok (.iinc 4 1, 3) := by decide +kernel
theorem dX4_greatestDivisor_31 : decode cX4_greatestDivisor 31 = .ok (.goto (-24), 3) := by decide +kernel
theorem dX4_greatestDivisor_34 : decode cX4_greatestDivisor 34 = .ok (.iload_n 2, 1) := by decide +kernel
theorem dX4_greatestDivisor_35 : decode cX4_greatestDivisor 35 = .ok (.iconst 1, 1) := by decide +kernel
theorem dX4_greatestDivisor_36 : decode cX4_greatestDivisor 36 = .ok (.invokestatic 244, 3) := by decide +kernel
theorem dX4_greatestDivisor_39 : decode cX4_greatestDivisor 39 = .ok (.ireturn, 1) := by decide +kernel
set_option maxRecDepth 20000 in
theorem S_X4_greatestDivisor_0 {g : GG} {d : Nat} {F : Int32 → St → Prop} (a1 : Int32) (a2 : Int32) (σ : St) (h : VM g (d + 1) M_X4_greatestDivisor (qI F) 7 [(0, vI a1), (1, vI a2), (2, vI a2), (3, vI a1), (4, vI 0)] [] σ) : VM g (d + 1) M_X4_greatestDivisor (qI F) 0 [(0, vI a1), (1, vI a2)] [] σ := by
  refine VE_iload_n 1 dX4_greatestDivisor_0 (k := ?_)
  refine VE_istore_n (ls' := [(2, vI a2), (0, vI a1), (1, vI a2)]) dX4_greatestDivisor_1 ?_
  refine VE_iload_n 1 dX4_greatestDivisor_2 (k := ?_)
  refine VE_istore_n (ls' := [(3, vI a1), (2, vI a2), (0, vI a1), (1, vI a2)]) dX4_greatestDivisor_3 ?_
  refine VE_iconst 0 dX4_greatestDivisor_4 (k := ?_)
  refine VE_istore (ls' := [(4, vI 0), (3, vI a1), (2, vI a2), (0, vI a1), (1, vI a2)]) dX4_greatestDivisor_5 ?_
  exact VE_sub [3, 4, 2, 1, 0] rfl h
set_option maxRecDepth 20000 in
theorem S_X4_greatestDivisor_7 {g : GG} {d : Nat} {F : Int32 → St → Prop} (x0 : Int32) (x1 : Int32) (x2 : Int32) (x3 : Int32) (x4 : Int32) (σ : St) (h : ((100 ≤ x4 → F (if x2 < 1 then 1 else x2) σ) ∧ (¬ 100 ≤ x4 → ((x3 = 0 → F (if x2 < 1 then 1 else x2) σ) ∧ (¬ x3 = 0 → (¬ x3 = 0 ∧ VM g (d + 1) M_X4_greatestDivisor (qI F) 7 [(0, vI x0), (1, vI x1), (2, vI x3), (3, vI (x2 - x2 / x3 * x3)), (4, vI (x4 + 1))] [] σ)))))) : VM g (d + 1) M_X4_greatestDivisor (qI F) 7 [(0, vI x0), (1, vI x1), (2, vI x2), (3, vI x3), (4, vI x4)] [] σ := by
  refine VE_iload 4 dX4_greatestDivisor_7 (k := ?_)
  refine VE_bipush 100 dX4_greatestDivisor_9 (k := ?_)
  refine VE_icmp_ge 34 dX4_greatestDivisor_11 (fun c1 => ?_) (fun c1 => ?_)
  · refine VE_iload_n 2 dX4_greatestDivisor_34 (k := ?_)
    refine VE_iconst 1 dX4_greatestDivisor_35 (k := ?_)
    refine VE_max (i1 := 372) (i2 := 373) (i3 := 53) (i4 := 374) dX4_greatestDivisor_36 ⟨by decide +kernel, rfl⟩ ⟨by decide +kernel, rfl⟩ ⟨by decide +kernel, rfl⟩ ⟨by decide +kernel, rfl⟩ (rok2 d) rfl ?_
    exact VM_iret dX4_greatestDivisor_39 (h.1 c1)
  · refine VE_iload_n 3 dX4_greatestDivisor_14 (k := ?_)
    refine VE_if_eq 34 dX4_greatestDivisor_15 (fun c2 => ?_) (fun c2 => ?_)
    · refine VE_iload_n 2 dX4_greatestDivisor_34 (k := ?_)
      refine VE_iconst 1 dX4_greatestDivisor_35 (k := ?_)
      refine VE_max (i1 := 372) (i2 := 373) (i3 := 53) (i4 := 374) dX4_greatestDivisor_36 ⟨by decide +kernel, rfl⟩ ⟨by decide +kernel, rfl⟩ ⟨by decide +kernel, rfl⟩ ⟨by decide +kernel, rfl⟩ (rok2 d) rfl ?_
      exact VM_iret dX4_greatestDivisor_39 ((h.2 c1).1 c2)
    · refine VE_iload_n 2 dX4_greatestDivisor_18 (k := ?_)
      refine VE_iload_n 3 dX4_greatestDivisor_19 (k := ?_)
      refine VE_irem dX4_greatestDivisor_20 ((h.2 c1).2 c2).1 ?_
      refine VE_istore (ls' := [(5, vI (x2 - x2 / x3 * x3)), (0, vI x0), (1, vI x1), (2, vI x2), (3, vI x3), (4, vI x4)]) dX4_greatestDivisor_21 ?_
      refine VE_iload_n 4 dX4_greatestDivisor_23 (k := ?_)
      refine VE_istore_n (ls' := [(2, vI x3), (5, vI (x2 - x2 / x3 * x3)), (0, vI x0), (1, vI x1), (3, vI x3), (4, vI x4)]) dX4_greatestDivisor_24 ?_
      refine VE_iload 1 dX4_greatestDivisor_25 (k := ?_)
      refine VE_istore_n (ls' := [(3, vI (x2 - x2 / x3 * x3)), (2, vI x3), (5, vI (x2 - x2 / x3 * x3)), (0, vI x0), (1, vI x1), (4, vI x4)]) dX4_greatestDivisor_27 ?_
      refine VE_iinc 5 (x4 + 1) (ls' := [(4, vI (x4 + 1)), (3, vI (x2 - x2 / x3 * x3)), (2, vI x3), (5, vI (x2 - x2 / x3 * x3)), (0, vI x0), (1, vI x1)]) dX4_greatestDivisor_28 ?_
      refine VE_goto 7 dX4_greatestDivisor_31 ?_
      exact VE_sub [4, 5, 2, 1, 0] rfl ((h.2 c1).2 c2).2
theorem dX4_leaveTrace_0 : decode cX4_leaveTrace 0 = .ok (.aload_n 0, 1) := by decide +kernel
theorem dX4_leaveTrace_1 : decode cX4_leaveTrace 1 = .ok (.bipush 31, 2) := by decide +kernel
theorem dX4_leaveTrace_3 : decode cX4_leaveTrace 3 = .ok (.aload_n 0, 1) := by decide +kernel
theorem dX4_leaveTrace_4 : decode cX4_leaveTrace 4 = .ok (.getfield 179, 3) := by decide +kernel
theorem dX4_leaveTrace_7 : decode cX4_leaveTrace 7 = .ok (.imul, 1) := by decide +kernel
theorem dX4_leaveTrace_8 : decode cX4_leaveTrace 8 = .ok (.iload_n 1, 1) := by decide +kernel
theorem dX4_leaveTrace_9 : decode cX4_leaveTrace 9 = .ok (.iadd, 1) := by decide +kernel
theorem dX4_leaveTrace_10 : decode cX4_leaveTrace 10 = .ok (.putfield 179, 3) := by decide +kernel
theorem dX4_leaveTrace_13 : decode cX4_leaveTrace 13 = .ok (.return_, 1) := by decide +kernel
set_option maxRecDepth 20000 in
theorem S_X4_leaveTrace_0 {g : GG} {d : Nat} {F : St → Prop} (a1 : Int32) (σ : St) (h : F (sU σ 0 6 ((31 * (σ 0 6)) + a1))) : VM g d M_X4_leaveTrace (qV F) 0 [(0, vR 0), (1, vI a1)] [] σ := by
  refine VE_aload_n 0 dX4_leaveTrace_0 (k := ?_)
  refine VE_bipush 31 dX4_leaveTrace_1 (k := ?_)
  refine VE_aload_n 0 dX4_leaveTrace_3 (k := ?_)
  refine VE_getI dX4_leaveTrace_4 fl_X4_179 ?_
  refine VE_imul dX4_leaveTrace_7 ?_
  refine VE_iload_n 1 dX4_leaveTrace_8 (k := ?_)
  refine VE_iadd dX4_leaveTrace_9 ?_
  refine VE_put dX4_leaveTrace_10 fl_X4_179 ?_
  exact VM_vret dX4_leaveTrace_13 h
theorem dX4_headsTelling_0 : decode cX4_headsTelling 0 = .ok (.aload_n 0, 1) := by decide +kernel
theorem dX4_headsTelling_1 : decode cX4_headsTelling 1 = .ok (.iconst 1, 1) := by decide +kernel
theorem dX4_headsTelling_2 : decode cX4_headsTelling 2 = .ok (.invokevirtual 172, 3) := by decide +kernel
theorem dX4_headsTelling_5 : decode cX4_headsTelling 5 = .ok (.aload_n 0, 1) := by decide +kernel
theorem dX4_headsTelling_6 : decode cX4_headsTelling 6 = .ok (.getfield 21, 3) := by decide +kernel
theorem dX4_headsTelling_9 : decode cX4_headsTelling 9 = .ok (.getfield 71, 3) := by decide +kernel
theorem dX4_headsTelling_12 : decode cX4_headsTelling 12 = .ok (.iload_n 1, 1) := by decide +kernel
theorem dX4_headsTelling_13 : decode cX4_headsTelling 13 = .ok (.iaload, 1) := by decide +kernel
theorem dX4_headsTelling_14 : decode cX4_headsTelling 14 = .ok (.ireturn, 1) := by decide +kernel
set_option maxRecDepth 20000 in
theorem S_X4_headsTelling_0 {g : GG} {d : Nat} {F : Int32 → St → Prop} (a1 : Int32) (σ : St) (h : (ME g d M_X4_leaveTrace [vR 0, vI 1] σ (qV (fun σ2 => (vp_in a1 5 ∧ F (σ2 12 a1.toNatClampNeg) σ2))))) : VM g (d + 1) M_X4_headsTelling (qI F) 0 [(0, vR 0), (1, vI a1)] [] σ := by
  refine VE_aload_n 0 dX4_headsTelling_0 (k := ?_)
  refine VE_iconst 1 dX4_headsTelling_1 (k := ?_)
  refine VE_cVv [vI 1] dX4_headsTelling_2 ml_X4_172 h (fun σ2 h3 => ?_) (rok_D d)
  refine VE_aload_n 0 dX4_headsTelling_5 (k := ?_)
  refine VE_getR 10 dX4_headsTelling_6 fl_X4_21 ?_
  refine VE_getR 12 dX4_headsTelling_9 fl_X4_71 ?_
  refine VE_iload_n 1 dX4_headsTelling_12 (k := ?_)
  refine VE_iald dX4_headsTelling_13 h3.1 ?_
  exact VM_iret dX4_headsTelling_14 h3.2
theorem dX4_lordsTelling_0 : decode cX4_lordsTelling 0 = .ok (.aload_n 0, 1) := by decide +kernel
theorem dX4_lordsTelling_1 : decode cX4_lordsTelling 1 = .ok (.iconst 2, 1) := by decide +kernel
theorem dX4_lordsTelling_2 : decode cX4_lordsTelling 2 = .ok (.invokevirtual 172, 3) := by decide +kernel
theorem dX4_lordsTelling_5 : decode cX4_lordsTelling 5 = .ok (.aload_n 0, 1) := by decide +kernel
theorem dX4_lordsTelling_6 : decode cX4_lordsTelling 6 = .ok (.iload_n 1, 1) := by decide +kernel
theorem dX4_lordsTelling_7 : decode cX4_lordsTelling 7 = .ok (.invokevirtual 169, 3) := by decide +kernel
theorem dX4_lordsTelling_10 : decode cX4_lordsTelling 10 = .ok (.bipush 100, 2) := by decide +kernel
theorem dX4_lordsTelling_12 : decode cX4_lordsTelling 12 = .ok (.iadd, 1) := by decide +kernel
theorem dX4_lordsTelling_13 : decode cX4_lordsTelling 13 = .ok (.ireturn, 1) := by decide +kernel
set_option maxRecDepth 20000 in
theorem S_X4_lordsTelling_0 {g : GG} {d : Nat} {F : Int32 → St → Prop} (a1 : Int32) (σ : St) (h : (ME g d M_X4_leaveTrace [vR 0, vI 2] σ (qV (fun σ2 => (ME g d M_X4_headsTelling [vR 0, vI a1] σ2 (qI (fun r4 σ5 => F (r4 + 100) σ5))))))) : VM g (d + 1) M_X4_lordsTelling (qI F) 0 [(0, vR 0), (1, vI a1)] [] σ := by
  refine VE_aload_n 0 dX4_lordsTelling_0 (k := ?_)
  refine VE_iconst 2 dX4_lordsTelling_1 (k := ?_)
  refine VE_cVv [vI 2] dX4_lordsTelling_2 ml_X4_172 h (fun σ2 h3 => ?_) (rok_D d)
  refine VE_aload_n 0 dX4_lordsTelling_5 (k := ?_)
  refine VE_iload_n 1 dX4_lordsTelling_6 (k := ?_)
  refine VE_cVi [vI a1] dX4_lordsTelling_7 ml_X4_169 h3 (fun r4 σ5 h6 => ?_) (rok_D d)
  refine VE_bipush 100 dX4_lordsTelling_10 (k := ?_)
  refine VE_iadd dX4_lordsTelling_12 ?_
  exact VM_iret dX4_lordsTelling_13 h6
theorem dX4_spysTelling_0 : decode cX4_spysTelling 0 = .ok (.aload_n 0, 1) := by decide +kernel
theorem dX4_spysTelling_1 : decode cX4_spysTelling 1 = .ok (.iconst 3, 1) := by decide +kernel
theorem dX4_spysTelling_2 : decode cX4_spysTelling 2 = .ok (.invokevirtual 172, 3) := by decide +kernel
theorem dX4_spysTelling_5 : decode cX4_spysTelling 5 = .ok (.aload_n 0, 1) := by decide +kernel
theorem dX4_spysTelling_6 : decode cX4_spysTelling 6 = .ok (.iload_n 1, 1) := by decide +kernel
theorem dX4_spysTelling_7 : decode cX4_spysTelling 7 = .ok (.invokevirtual 166, 3) := by decide +kernel
theorem dX4_spysTelling_10 : decode cX4_spysTelling 10 = .ok (.istore_n 2, 1) := by decide +kernel
theorem dX4_spysTelling_11 : decode cX4_spysTelling 11 = .ok (.iload_n 2, 1) := by decide +kernel
theorem dX4_spysTelling_12 : decode cX4_spysTelling 12 = .ok (.aload_n 0, 1) := by decide +kernel
theorem dX4_spysTelling_13 : decode cX4_spysTelling 13 = .ok (.iload_n 1, 1) := by decide +kernel
theorem dX4_spysTelling_14 : decode cX4_spysTelling 14 = .ok (.invokevirtual 169, 3) := by decide +kernel
theorem dX4_spysTelling_17 : decode cX4_spysTelling 17 = .ok (.iadd, 1) := by decide +kernel
theorem dX4_spysTelling_18 : decode cX4_spysTelling 18 = .ok (.ireturn, 1) := by decide +kernel
set_option maxRecDepth 20000 in
theorem S_X4_spysTelling_0 {g : GG} {d : Nat} {F : Int32 → St → Prop} (a1 : Int32) (σ : St) (h : (ME g d M_X4_leaveTrace [vR 0, vI 3] σ (qV (fun σ2 => (ME g d M_X4_lordsTelling [vR 0, vI a1] σ2 (qI (fun r4 σ5 => (ME g d M_X4_headsTelling [vR 0, vI a1] σ5 (qI (fun r7 σ8 => F (r4 + r7) σ8)))))))))) : VM g (d + 1) M_X4_spysTelling (qI F) 0 [(0, vR 0), (1, vI a1)] [] σ := by
  refine VE_aload_n 0 dX4_spysTelling_0 (k := ?_)
  refine VE_iconst 3 dX4_spysTelling_1 (k := ?_)
  refine VE_cVv [vI 3] dX4_spysTelling_2 ml_X4_172 h (fun σ2 h3 => ?_) (rok_D d)
  refine VE_aload_n 0 dX4_spysTelling_5 (k := ?_)
  refine VE_iload_n 1 dX4_spysTelling_6 (k := ?_)
  refine VE_cVi [vI a1] dX4_spysTelling_7 ml_X4_166 h3 (fun r4 σ5 h6 => ?_) (rok_D d)
  refine VE_istore_n (ls' := [(2, vI r4), (0, vR 0), (1, vI a1)]) dX4_spysTelling_10 ?_
  refine VE_iload_n 0 dX4_spysTelling_11 (k := ?_)
  refine VE_aload_n 1 dX4_spysTelling_12 (k := ?_)
  refine VE_iload_n 2 dX4_spysTelling_13 (k := ?_)
  refine VE_cVi [vI a1] dX4_spysTelling_14 ml_X4_169 h6 (fun r7 σ8 h9 => ?_) (rok_D d)
  refine VE_iadd dX4_spysTelling_17 ?_
  exact VM_iret dX4_spysTelling_18 h9
theorem dX4_cut_0 : decode cX4_cut 0 = .ok (.iload_n 1, 1) := by decide +kernel
theorem dX4_cut_1 : decode cX4_cut 1 = .ok (.ifCond .ne 6, 3) := by decide +kernel
theorem dX4_cut_4 : decode cX4_cut 4 = .ok (.iload_n 0, 1) := by decide +kernel
theorem dX4_cut_5 : decode cX4_cut 5 = .ok (.i2b, 1) := by decide +kernel
theorem dX4_cut_6 : decode cX4_cut 6 = .ok (.ireturn, 1) := by decide +kernel
theorem dX4_cut_7 : decode cX4_cut 7 = .ok (.iload_n 1, 1) := by decide +kernel
theorem dX4_cut_8 : decode cX4_cut 8 = .ok (.iconst 1, 1) := by decide +kernel
theorem dX4_cut_9 : decode cX4_cut 9 = .ok (.if_icmp .ne 8, 3) := by decide +kernel
theorem dX4_cut_12 : decode cX4_cut 12 = .ok (.iload_n 0, 1) := by decide +kernel
theorem dX4_cut_13 : decode cX4_cut 13 = .ok (.i2s, 1) := by decide +kernel
theorem dX4_cut_14 : decode cX4_cut 14 = .ok (.goto 4, 3) := by decide +kernel
theorem dX4_cut_17 : decode cX4_cut 17 = .ok (.iload_n 0, 1) := by decide +kernel
theorem dX4_cut_18 : decode cX4_cut 18 = .ok (.ireturn, 1) := by decide +kernel
set_option maxRecDepth 20000 in
theorem S_X4_cut_0 {g : GG} {d : Nat} {F : Int32 → St → Prop} (a1 : Int32) (a2 : Int32) (σ : St) (h : ((¬ a2 = 0 → ((¬ a2 = 1 → F a1 σ) ∧ (a2 = 1 → F a1.toInt16.toInt32 σ))) ∧ (a2 = 0 → F a1.toInt8.toInt32 σ))) : VM g d M_X4_cut (qI F) 0 [(0, vI a1), (1, vI a2)] [] σ := by
  refine VE_iload_n 1 dX4_cut_0 (k := ?_)
  refine VE_if_ne 7 dX4_cut_1 (fun c1 => ?_) (fun c1 => ?_)
  · refine VE_iload_n 1 dX4_cut_7 (k := ?_)
    refine VE_iconst 1 dX4_cut_8 (k := ?_)
    refine VE_icmp_ne 17 dX4_cut_9 (fun c2 => ?_) (fun c2 => ?_)
    · refine VE_iload_n 0 dX4_cut_17 (k := ?_)
      exact VM_iret dX4_cut_18 ((h.1 c1).1 c2)
    · refine VE_iload_n 0 dX4_cut_12 (k := ?_)
      refine VE_i2s dX4_cut_13 ?_
      refine VE_goto 18 dX4_cut_14 ?_
      exact VM_iret dX4_cut_18 ((h.1 c1).2 c2)
  · refine VE_iload_n 0 dX4_cut_4 (k := ?_)
    refine VE_i2b dX4_cut_5 ?_
    exact VM_iret dX4_cut_6 (h.2 c1)
end
section
theorem dX5_fails_0 : decode cX5_fails 0 = .ok (.aload_n 0, 1) := by decide +kernel
theorem dX5_fails_1 : decode cX5_fails 1 = .ok (.iload_n 1, 1) := by decide +kernel
theorem dX5_fails_2 : decode cX5_fails 2 = .ok (.putfield 49, 3) := by decide +kernel
theorem dX5_fails_5 : decode cX5_fails 5 = .ok (.bipush (-10), 2) := by decide +kernel
theorem dX5_fails_7 : decode cX5_fails 7 = .ok (.iload_n 1, 1) := by decide +kernel
theorem dX5_fails_8 : decode cX5_fails 8 = .ok (.isub, 1) := by decide +kernel
theorem dX5_fails_9 : decode cX5_fails 9 = .ok (.ireturn, 1) := by decide +kernel
set_option maxRecDepth 20000 in
theorem S_X5_fails_0 {g : GG} {d : Nat} {F : Int32 → St → Prop} (a1 : Int32) (σ : St) (h : F ((-10) - a1) (sU σ 23 0 a1)) : VM g d M_X5_fails (qI F) 0 [(0, vR 23), (1, vI a1)] [] σ := by
  refine VE_aload_n 0 dX5_fails_0 (k := ?_)
  refine VE_iload_n 1 dX5_fails_1 (k := ?_)
  refine VE_put dX5_fails_2 fl_X5_49 ?_
  refine VE_bipush (-10) dX5_fails_5 (k := ?_)
  refine VE_iload_n 1 dX5_fails_7 (k := ?_)
  refine VE_isub dX5_fails_8 ?_
  exact VM_iret dX5_fails_9 h
theorem dX5_lost_0 : decode cX5_lost 0 = .ok (.aload_n 0, 1) := by decide +kernel
theorem dX5_lost_1 : decode cX5_lost 1 = .ok (.iload_n 1, 1) := by decide +kernel
theorem dX5_lost_2 : decode cX5_lost 2 = .ok (.putfield 49, 3) := by decide +kernel
theorem dX5_lost_5 : decode cX5_lost 5 = .ok (.ldc2_w 53, 3) := by decide +kernel
theorem dX5_lost_8 : decode cX5_lost 8 = .ok (.lreturn, 1) := by decide +kernel
set_option maxRecDepth 20000 in
theorem S_X5_lost_0 {g : GG} {d : Nat} {F : Int64 → St → Prop} (a1 : Int32) (σ : St) (h : F (-9223372036854775808) (sU σ 23 0 a1)) : VM g d M_X5_lost (qL F) 0 [(0, vR 23), (1, vI a1)] [] σ := by
  refine VE_aload_n 0 dX5_lost_0 (k := ?_)
  refine VE_iload_n 1 dX5_lost_1 (k := ?_)
  refine VE_put dX5_lost_2 fl_X5_49 ?_
  refine VE_ldc2 (-9223372036854775808) 695 dX5_lost_5 ⟨by decide +kernel, rfl⟩ ?_
  exact VM_lret dX5_lost_8 h
theorem dX5_within_0 : decode cX5_within 0 = .ok (.iload_n 0, 1) := by decide +kernel
theorem dX5_within_1 : decode cX5_within 1 = .ok (.iload_n 1, 1) := by decide +kernel
theorem dX5_within_2 : decode cX5_within 2 = .ok (.if_icmp .lt 12, 3) := by decide +kernel
theorem dX5_within_5 : decode cX5_within 5 = .ok (.iload_n 0, 1) := by decide +kernel
theorem dX5_within_6 : decode cX5_within 6 = .ok (.iload_n 2, 1) := by decide +kernel
theorem dX5_within_7 : decode cX5_within 7 = .ok (.if_icmp .gt 7, 3) := by decide +kernel
theorem dX5_within_10 : decode cX5_within 10 = .ok (.iconst 1, 1) := by decide +kernel
theorem dX5_within_11 : decode cX5_within 11 = .ok (.goto 4, 3) := by decide +kernel
theorem dX5_within_14 : decode cX5_within 14 = .ok (.iconst 0, 1) := by decide +kernel
theorem dX5_within_15 : decode cX5_within 15 = .ok (.ireturn, 1) := by decide +kernel
set_option maxRecDepth 20000 in
theorem S_X5_within_0 {g : GG} {d : Nat} {F : Int32 → St → Prop} (a1 : Int32) (a2 : Int32) (a3 : Int32) (σ : St) (h : ((a1 < a2 → F 0 σ) ∧ (¬ a1 < a2 → ((a3 < a1 → F 0 σ) ∧ (¬ a3 < a1 → F 1 σ))))) : VM g d M_X5_within (qI F) 0 [(0, vI a1), (1, vI a2), (2, vI a3)] [] σ := by
  refine VE_iload_n 0 dX5_within_0 (k := ?_)
  refine VE_iload_n 1 dX5_within_1 (k := ?_)
  refine VE_icmp_lt 14 dX5_within_2 (fun c1 => ?_) (fun c1 => ?_)
  · refine VE_iconst 0 dX5_within_14 (k := ?_)
    exact VM_zret dX5_within_15 (h.1 c1) (by decide)
  · refine VE_iload_n 0 dX5_within_5 (k := ?_)
    refine VE_iload_n 2 dX5_within_6 (k := ?_)
    refine VE_icmp_gt 14 dX5_within_7 (fun c2 => ?_) (fun c2 => ?_)
    · refine VE_iconst 0 dX5_within_14 (k := ?_)
      exact VM_zret dX5_within_15 ((h.2 c1).1 c2) (by decide)
    · refine VE_iconst 1 dX5_within_10 (k := ?_)
      refine VE_goto 15 dX5_within_11 ?_
      exact VM_zret dX5_within_15 ((h.2 c1).2 c2) (by decide)
theorem dX5_isSheet_0 : decode cX5_isSheet 0 = .ok (.iload_n 0, 1) := by decide +kernel
theorem dX5_isSheet_1 : decode cX5_isSheet 1 = .ok (.iconst 0, 1) := by decide +kernel
theorem dX5_isSheet_2 : decode cX5_isSheet 2 = .ok (.iconst 3, 1) := by decide +kernel
theorem dX5_isSheet_3 : decode cX5_isSheet 3 = .ok (.invokestatic 55, 3) := by decide +kernel
theorem dX5_isSheet_6 : decode cX5_isSheet 6 = .ok (.ireturn, 1) := by decide +kernel
set_option maxRecDepth 20000 in
theorem S_X5_isSheet_0 {g : GG} {d : Nat} {F : Int32 → St → Prop} (a1 : Int32) (σ : St) (h : (ME g d M_X5_within [vI a1, vI 0, vI 3] σ (qI (fun r1 σ2 => (F r1 σ2 ∧ (r1 = 0 ∨ r1 = 1)))))) : VM g (d + 1) M_X5_isSheet (qI F) 0 [(0, vI a1)] [] σ := by
  refine VE_iload_n 0 dX5_isSheet_0 (k := ?_)
  refine VE_iconst 0 dX5_isSheet_1 (k := ?_)
  refine VE_iconst 3 dX5_isSheet_2 (k := ?_)
  refine VE_cSi [vI a1, vI 0, vI 3] dX5_isSheet_3 ml_X5_55 h (fun r1 σ2 h3 => ?_) (rok_D d)
  exact VM_zret dX5_isSheet_6 h3.1 h3.2
theorem dX5_isSort_0 : decode cX5_isSort 0 = .ok (.iload_n 0, 1) := by decide +kernel
theorem dX5_isSort_1 : decode cX5_isSort 1 = .ok (.iconst 0, 1) := by decide +kernel
theorem dX5_isSort_2 : decode cX5_isSort 2 = .ok (.iconst 2, 1) := by decide +kernel
theorem dX5_isSort_3 : decode cX5_isSort 3 = .ok (.invokestatic 55, 3) := by decide +kernel
theorem dX5_isSort_6 : decode cX5_isSort 6 = .ok (.ireturn, 1) := by decide +kernel
set_option maxRecDepth 20000 in
theorem S_X5_isSort_0 {g : GG} {d : Nat} {F : Int32 → St → Prop} (a1 : Int32) (σ : St) (h : (ME g d M_X5_within [vI a1, vI 0, vI 2] σ (qI (fun r1 σ2 => (F r1 σ2 ∧ (r1 = 0 ∨ r1 = 1)))))) : VM g (d + 1) M_X5_isSort (qI F) 0 [(0, vI a1)] [] σ := by
  refine VE_iload_n 0 dX5_isSort_0 (k := ?_)
  refine VE_iconst 0 dX5_isSort_1 (k := ?_)
  refine VE_iconst 2 dX5_isSort_2 (k := ?_)
  refine VE_cSi [vI a1, vI 0, vI 2] dX5_isSort_3 ml_X5_55 h (fun r1 σ2 h3 => ?_) (rok_D d)
  exact VM_zret dX5_isSort_6 h3.1 h3.2
theorem dX5_against_0 : decode cX5_against 0 = .ok (.aload_n 0, 1) := by decide +kernel
theorem dX5_against_1 : decode cX5_against 1 = .ok (.getfield 9, 3) := by decide +kernel
theorem dX5_against_4 : decode cX5_against 4 = .ok (.iload_n 1, 1) := by decide +kernel
theorem dX5_against_5 : decode cX5_against 5 = .ok (.iaload, 1) := by decide +kernel
theorem dX5_against_6 : decode cX5_against 6 = .ok (.bipush (-9), 2) := by decide +kernel
theorem dX5_against_8 : decode cX5_against 8 = .ok (.if_icmp .eq 15, 3) := by decide +kernel
theorem dX5_against_11 : decode cX5_against 11 = .ok (.aload_n 0, 1) := by decide +kernel
theorem dX5_against_12 : decode cX5_against 12 = .ok (.getfield 9, 3) := by decide +kernel
theorem dX5_against_15 : decode cX5_against 15 = .ok (.iload_n 1, 1) := by decide +kernel
theorem dX5_against_16 : decode cX5_against 16 = .ok (.iaload, 1) := by decide +kernel
theorem dX5_against_17 : decode cX5_against 17 = .ok (.iload_n 2, 1) := by decide +kernel
theorem dX5_against_18 : decode cX5_against 18 = .ok (.if_icmp .eq 5, 3) := by decide +kernel
theorem dX5_against_21 : decode cX5_against 21 = .ok (.iconst 2, 1) := by decide +kernel
theorem dX5_against_22 : decode cX5_against 22 = .ok (.ireturn, 1) := by decide +kernel
theorem dX5_against_23 : decode cX5_against 23 = .ok (.aload_n 0, 1) := by decide +kernel
theorem dX5_against_24 : decode cX5_against 24 = .ok (.getfield 9, 3) := by decide +kernel
theorem dX5_against_27 : decode cX5_against 27 = .ok (.iload_n 1, 1) := by decide +kernel
theorem dX5_against_28 : decode cX5_against 28 = .ok (.iaload, 1) := by decide +kernel
theorem dX5_against_29 : decode cX5_against 29 = .ok (.bipush (-9), 2) := by decide +kernel
theorem dX5_against_31 : decode cX5_against 31 = .ok (.if_icmp .ne 5, 3) := by decide +kernel
theorem dX5_against_34 : decode cX5_against 34 = .ok (.iconst 1, 1) := by decide +kernel
theorem dX5_against_35 : decode cX5_against 35 = .ok (.ireturn, 1) := by decide +kernel
theorem dX5_against_36 : decode cX5_against 36 = .ok (.iload 4, 2) := by decide +kernel
theorem dX5_against_38 : decode cX5_against 38 = .ok (.ifCond .ge 5, 3) := by decide +kernel
theorem dX5_against_41 : decode cX5_against 41 = .ok (.iconst 4, 1) := by decide +kernel
theorem dX5_against_42 : decode cX5_against 42 = .ok (.ireturn, 1) := by decide +kernel
theorem dX5_against_43 : decode cX5_against 43 = .ok (.iload_n 3, 1) := by decide +kernel
theorem dX5_against_44 : decode cX5_against 44 = .ok (.ifCond .lt 26, 3) := by decide +kernel
theorem dX5_against_47 : decode cX5_against 47 = .ok (.iload_n 3, 1) := by decide +kernel
theorem dX5_against_48 : decode cX5_against 48 = .ok (.aload_n 0, 1) := by decide +kernel
theorem dX5_against_49 : decode cX5_against 49 = .ok (.getfield 13, 3) := by decide +kernel
theorem dX5_against_52 : decode cX5_against 52 = .ok (.iload_n 1, 1) := by decide +kernel
theorem dX5_against_53 : decode cX5_against 53 = .ok (.iaload, 1) := by decide +kernel
theorem dX5_against_54 : decode cX5_against 54 = .ok (.if_icmp .gt 16, 3) := by decide +kernel
theorem dX5_against_57 : decode cX5_against 57 = .ok (.iload 4, 2) := by decide +kernel
theorem dX5_against_59 : decode cX5_against 59 = .ok (.aload_n 0, 1) := by decide +kernel
theorem dX5_against_60 : decode cX5_against 60 = .ok (.getfield 13, 3) := by decide +kernel
theorem dX5_against_63 : decode cX5_against 63 = .ok (.iload_n 1, 1) := by decide +kernel
theorem dX5_against_64 : decode cX5_against 64 = .ok (.iaload, 1) := by decide +kernel
theorem dX5_against_65 : decode cX5_against 65 = .ok (.iload_n 3, 1) := by decide +kernel
theorem dX5_against_66 : decode cX5_against 66 = .ok (.isub, 1) := by decide +kernel
theorem dX5_against_67 : decode cX5_against 67 = .ok (.if_icmp .le 7, 3) := by decide +kernel
theorem dX5_against_70 : decode cX5_against 70 = .ok (.iconst 3, 1) := by decide +kernel
theorem dX5_against_71 : decode cX5_against 71 = .ok (.goto 4, 3) := by decide +kernel
theorem dX5_against_74 : decode cX5_against 74 = .ok (.iconst 0, 1) := by decide +kernel
theorem dX5_against_75 : decode cX5_against 75 = .ok (.ireturn, 1) := by decide +kernel
set_option maxRecDepth 20000 in
theorem S_X5_against_0 {g : GG} {d : Nat} {F : Int32 → St → Prop} (a1 : Int32) (a2 : Int32) (a3 : Int32) (a4 : Int32) (σ : St) (h : (vp_in a1 4 ∧ (((σ 24 a1.toNatClampNeg) = (-9) → ((¬ (σ 24 a1.toNatClampNeg) = (-9) → ((0 ≤ a4 → ((a3 < 0 → F 3 σ) ∧ (¬ a3 < 0 → (((σ 25 a1.toNatClampNeg) < a3 → F 3 σ) ∧ (¬ (σ 25 a1.toNatClampNeg) < a3 → ((a4 ≤ ((σ 25 a1.toNatClampNeg) - a3) → F 0 σ) ∧ (¬ a4 ≤ ((σ 25 a1.toNatClampNeg) - a3) → F 3 σ))))))) ∧ (¬ 0 ≤ a4 → F 4 σ))) ∧ ((σ 24 a1.toNatClampNeg) = (-9) → F 1 σ))) ∧ (¬ (σ 24 a1.toNatClampNeg) = (-9) → (((σ 24 a1.toNatClampNeg) = a2 → ((¬ (σ 24 a1.toNatClampNeg) = (-9) → ((0 ≤ a4 → ((a3 < 0 → F 3 σ) ∧ (¬ a3 < 0 → (((σ 25 a1.toNatClampNeg) < a3 → F 3 σ) ∧ (¬ (σ 25 a1.toNatClampNeg) < a3 → ((a4 ≤ ((σ 25 a1.toNatClampNeg) - a3) → F 0 σ) ∧ (¬ a4 ≤ ((σ 25 a1.toNatClampNeg) - a3) → F 3 σ))))))) ∧ (¬ 0 ≤ a4 → F 4 σ))) ∧ ((σ 24 a1.toNatClampNeg) = (-9) → F 1 σ))) ∧ (¬ (σ 24 a1.toNatClampNeg) = a2 → F 2 σ)))))) : VM g d M_X5_against (qI F) 0 [(0, vR 23), (1, vI a1), (2, vI a2), (3, vI a3), (4, vI a4)] [] σ := by
  refine VE_aload_n 0 dX5_against_0 (k := ?_)
  refine VE_getR 24 dX5_against_1 fl_X5_9 ?_
  refine VE_iload_n 1 dX5_against_4 (k := ?_)
  refine VE_iald dX5_against_5 h.1 ?_
  refine VE_bipush (-9) dX5_against_6 (k := ?_)
  refine VE_icmp_eq 23 dX5_against_8 (fun c1 => ?_) (fun c1 => ?_)
  · refine VE_aload_n 0 dX5_against_23 (k := ?_)
    refine VE_getR 24 dX5_against_24 fl_X5_9 ?_
    refine VE_iload_n 1 dX5_against_27 (k := ?_)
    refine VE_iald dX5_against_28 h.1 ?_
    refine VE_bipush (-9) dX5_against_29 (k := ?_)
    refine VE_icmp_ne 36 dX5_against_31 (fun c2 => ?_) (fun c2 => ?_)
    · refine VE_iload 4 dX5_against_36 (k := ?_)
      refine VE_if_ge 43 dX5_against_38 (fun c3 => ?_) (fun c3 => ?_)
      · refine VE_iload_n 3 dX5_against_43 (k := ?_)
        refine VE_if_lt 70 dX5_against_44 (fun c4 => ?_) (fun c4 => ?_)
        · refine VE_iconst 3 dX5_against_70 (k := ?_)
          refine VE_goto 75 dX5_against_71 ?_
          exact VM_iret dX5_against_75 ((((h.2.1 c1).1 c2).1 c3).1 c4)
        · refine VE_iload_n 3 dX5_against_47 (k := ?_)
          refine VE_aload_n 0 dX5_against_48 (k := ?_)
          refine VE_getR 25 dX5_against_49 fl_X5_13 ?_
          refine VE_iload_n 1 dX5_against_52 (k := ?_)
          refine VE_iald dX5_against_53 h.1 ?_
          refine VE_icmp_gt 70 dX5_against_54 (fun c5 => ?_) (fun c5 => ?_)
          · refine VE_iconst 3 dX5_against_70 (k := ?_)
            refine VE_goto 75 dX5_against_71 ?_
            exact VM_iret dX5_against_75 (((((h.2.1 c1).1 c2).1 c3).2 c4).1 c5)
          · refine VE_iload 4 dX5_against_57 (k := ?_)
            refine VE_aload_n 0 dX5_against_59 (k := ?_)
            refine VE_getR 25 dX5_against_60 fl_X5_13 ?_
            refine VE_iload_n 1 dX5_against_63 (k := ?_)
            refine VE_iald dX5_against_64 h.1 ?_
            refine VE_iload_n 3 dX5_against_65 (k := ?_)
            refine VE_isub dX5_against_66 ?_
            refine VE_icmp_le 74 dX5_against_67 (fun c6 => ?_) (fun c6 => ?_)
            · refine VE_iconst 0 dX5_against_74 (k := ?_)
              exact VM_iret dX5_against_75 ((((((h.2.1 c1).1 c2).1 c3).2 c4).2 c5).1 c6)
            · refine VE_iconst 3 dX5_against_70 (k := ?_)
              refine VE_goto 75 dX5_against_71 ?_
              exact VM_iret dX5_against_75 ((((((h.2.1 c1).1 c2).1 c3).2 c4).2 c5).2 c6)
      · refine VE_iconst 4 dX5_against_41 (k := ?_)
        exact VM_iret dX5_against_42 (((h.2.1 c1).1 c2).2 c3)
    · refine VE_iconst 1 dX5_against_34 (k := ?_)
      exact VM_iret dX5_against_35 ((h.2.1 c1).2 c2)
  · refine VE_aload_n 0 dX5_against_11 (k := ?_)
    refine VE_getR 24 dX5_against_12 fl_X5_9 ?_
    refine VE_iload_n 1 dX5_against_15 (k := ?_)
    refine VE_iald dX5_against_16 h.1 ?_
    refine VE_iload_n 2 dX5_against_17 (k := ?_)
    refine VE_icmp_eq 23 dX5_against_18 (fun c7 => ?_) (fun c7 => ?_)
    · refine VE_aload_n 0 dX5_against_23 (k := ?_)
      refine VE_getR 24 dX5_against_24 fl_X5_9 ?_
      refine VE_iload_n 1 dX5_against_27 (k := ?_)
      refine VE_iald dX5_against_28 h.1 ?_
      refine VE_bipush (-9) dX5_against_29 (k := ?_)
      refine VE_icmp_ne 36 dX5_against_31 (fun c8 => ?_) (fun c8 => ?_)
      · refine VE_iload 4 dX5_against_36 (k := ?_)
        refine VE_if_ge 43 dX5_against_38 (fun c9 => ?_) (fun c9 => ?_)
        · refine VE_iload_n 3 dX5_against_43 (k := ?_)
          refine VE_if_lt 70 dX5_against_44 (fun c10 => ?_) (fun c10 => ?_)
          · refine VE_iconst 3 dX5_against_70 (k := ?_)
            refine VE_goto 75 dX5_against_71 ?_
            exact VM_iret dX5_against_75 (((((h.2.2 c1).1 c7).1 c8).1 c9).1 c10)
          · refine VE_iload_n 3 dX5_against_47 (k := ?_)
            refine VE_aload_n 0 dX5_against_48 (k := ?_)
            refine VE_getR 25 dX5_against_49 fl_X5_13 ?_
            refine VE_iload_n 1 dX5_against_52 (k := ?_)
            refine VE_iald dX5_against_53 h.1 ?_
            refine VE_icmp_gt 70 dX5_against_54 (fun c11 => ?_) (fun c11 => ?_)
            · refine VE_iconst 3 dX5_against_70 (k := ?_)
              refine VE_goto 75 dX5_against_71 ?_
              exact VM_iret dX5_against_75 ((((((h.2.2 c1).1 c7).1 c8).1 c9).2 c10).1 c11)
            · refine VE_iload 4 dX5_against_57 (k := ?_)
              refine VE_aload_n 0 dX5_against_59 (k := ?_)
              refine VE_getR 25 dX5_against_60 fl_X5_13 ?_
              refine VE_iload_n 1 dX5_against_63 (k := ?_)
              refine VE_iald dX5_against_64 h.1 ?_
              refine VE_iload_n 3 dX5_against_65 (k := ?_)
              refine VE_isub dX5_against_66 ?_
              refine VE_icmp_le 74 dX5_against_67 (fun c12 => ?_) (fun c12 => ?_)
              · refine VE_iconst 0 dX5_against_74 (k := ?_)
                exact VM_iret dX5_against_75 (((((((h.2.2 c1).1 c7).1 c8).1 c9).2 c10).2 c11).1 c12)
              · refine VE_iconst 3 dX5_against_70 (k := ?_)
                refine VE_goto 75 dX5_against_71 ?_
                exact VM_iret dX5_against_75 (((((((h.2.2 c1).1 c7).1 c8).1 c9).2 c10).2 c11).2 c12)
        · refine VE_iconst 4 dX5_against_41 (k := ?_)
          exact VM_iret dX5_against_42 ((((h.2.2 c1).1 c7).1 c8).2 c9)
      · refine VE_iconst 1 dX5_against_34 (k := ?_)
        exact VM_iret dX5_against_35 (((h.2.2 c1).1 c7).2 c8)
    · refine VE_iconst 2 dX5_against_21 (k := ?_)
      exact VM_iret dX5_against_22 ((h.2.2 c1).2 c7)
theorem dX5_isHead_0 : decode cX5_isHead 0 = .ok (.iload_n 1, 1) := by decide +kernel
theorem dX5_isHead_1 : decode cX5_isHead 1 = .ok (.ifCond .lt 15, 3) := by decide +kernel
theorem dX5_isHead_4 : decode cX5_isHead 4 = .ok (.iload_n 1, 1) := by decide +kernel
theorem dX5_isHead_5 : decode cX5_isHead 5 = .ok (.aload_n 0, 1) := by decide +kernel
theorem dX5_isHead_6 : decode cX5_isHead 6 = .ok (.getfield 59, 3) := by decide +kernel
theorem dX5_isHead_9 : decode cX5_isHead 9 = .ok (.if_icmp .ge 7, 3) := by decide +kernel
theorem dX5_isHead_12 : decode cX5_isHead 12 = .ok (.iconst 1, 1) := by decide +kernel
theorem dX5_isHead_13 : decode cX5_isHead 13 = .ok (.goto 4, 3) := by decide +kernel
theorem dX5_isHead_16 : decode cX5_isHead 16 = .ok (.iconst 0, 1) := by decide +kernel
theorem dX5_isHead_17 : decode cX5_isHead 17 = .ok (.ireturn, 1) := by decide +kernel
set_option maxRecDepth 20000 in
theorem S_X5_isHead_0 {g : GG} {d : Nat} {F : Int32 → St → Prop} (a1 : Int32) (σ : St) (h : ((a1 < 0 → F 0 σ) ∧ (¬ a1 < 0 → (((σ 23 5) ≤ a1 → F 0 σ) ∧ (¬ (σ 23 5) ≤ a1 → F 1 σ))))) : VM g d M_X5_isHead (qI F) 0 [(0, vR 23), (1, vI a1)] [] σ := by
  refine VE_iload_n 1 dX5_isHead_0 (k := ?_)
  refine VE_if_lt 16 dX5_isHead_1 (fun c1 => ?_) (fun c1 => ?_)
  · refine VE_iconst 0 dX5_isHead_16 (k := ?_)
    exact VM_zret dX5_isHead_17 (h.1 c1) (by decide)
  · refine VE_iload_n 1 dX5_isHead_4 (k := ?_)
    refine VE_aload_n 0 dX5_isHead_5 (k := ?_)
    refine VE_getI dX5_isHead_6 fl_X5_59 ?_
    refine VE_icmp_ge 16 dX5_isHead_9 (fun c2 => ?_) (fun c2 => ?_)
    · refine VE_iconst 0 dX5_isHead_16 (k := ?_)
      exact VM_zret dX5_isHead_17 ((h.2 c1).1 c2) (by decide)
    · refine VE_iconst 1 dX5_isHead_12 (k := ?_)
      refine VE_goto 17 dX5_isHead_13 ?_
      exact VM_zret dX5_isHead_17 ((h.2 c1).2 c2) (by decide)
theorem dX5_digit_0 : decode cX5_digit 0 = .ok (.aload_n 0, 1) := by decide +kernel
theorem dX5_digit_1 : decode cX5_digit 1 = .ok (.getfield 62, 3) := by decide +kernel
theorem dX5_digit_4 : decode cX5_digit 4 = .ok (.iload_n 1, 1) := by decide +kernel
theorem dX5_digit_5 : decode cX5_digit 5 = .ok (.if_icmp .ge 26, 3) := by decide +kernel
theorem dX5_digit_8 : decode cX5_digit 8 = .ok (.aload_n 0, 1) := by decide +kernel
theorem dX5_digit_9 : decode cX5_digit 9 = .ok (.getfield 16, 3) := by decide +kernel
theorem dX5_digit_12 : decode cX5_digit 12 = .ok (.aload_n 0, 1) := by decide +kernel
theorem dX5_digit_13 : decode cX5_digit 13 = .ok (.getfield 62, 3) := by decide +kernel
theorem dX5_digit_16 : decode cX5_digit 16 = .ok (.iaload, 1) := by decide +kernel
theorem dX5_digit_17 : decode cX5_digit 17 = .ok (.bipush 48, 2) := by decide +kernel
theorem dX5_digit_19 : decode cX5_digit 19 = .ok (.iload_n 2, 1) := by decide +kernel
theorem dX5_digit_20 : decode cX5_digit 20 = .ok (.iadd, 1) := by decide +kernel
theorem dX5_digit_21 : decode cX5_digit 21 = .ok (.bipush 48, 2) := by decide +kernel
theorem dX5_digit_23 : decode cX5_digit 23 = .ok (.iload_n 3, 1) := by decide +kernel
theorem dX5_digit_24 : decode cX5_digit 24 = .ok (.iadd, 1) := by decide +kernel
theorem dX5_digit_25 : decode cX5_digit 25 = .ok (.invokestatic 55, 3) := by decide +kernel
theorem dX5_digit_28 : decode cX5_digit 28 = .ok (.ifCond .ne 6, 3) := by decide +kernel
theorem dX5_digit_31 : decode cX5_digit 31 = .ok (.bipush (-9), 2) := by decide +kernel
theorem dX5_digit_33 : decode cX5_digit 33 = .ok (.ireturn, 1) := by decide +kernel
theorem dX5_digit_34 : decode cX5_digit 34 = .ok (.aload_n 0, 1) := by decide +kernel
theorem dX5_digit_35 : decode cX5_digit 35 = .ok (.dup, 1) := by decide +kernel
theorem dX5_digit_36 : decode cX5_digit 36 = .ok (.getfield 62, 3) := by decide +kernel
theorem dX5_digit_39 : decode cX5_digit 39 = .ok (.iconst 1, 1) := by decide +kernel
theorem dX5_digit_40 : decode cX5_digit 40 = .ok (.iadd, 1) := by decide +kernel
theorem dX5_digit_41 : decode cX5_digit 41 = .ok (.putfield 62, 3) := by decide +kernel
theorem dX5_digit_44 : decode cX5_digit 44 = .ok (.aload_n 0, 1) := by decide +kernel
theorem dX5_digit_45 : decode cX5_digit 45 = .ok (.getfield 16, 3) := by decide +kernel
theorem dX5_digit_48 : decode cX5_digit 48 = .ok (.aload_n 0, 1) := by decide +kernel
theorem dX5_digit_49 : decode cX5_digit 49 = .ok (.getfield 62, 3) := by decide +kernel
theorem dX5_digit_52 : decode cX5_digit 52 = .ok (.iconst 1, 1) := by decide +kernel
theorem dX5_digit_53 : decode cX5_digit 53 = .ok (.isub, 1) := by decide +kernel
theorem dX5_digit_54 : decode cX5_digit 54 = .ok (.iaload, 1) := by decide +kernel
theorem dX5_digit_55 : decode cX5_digit 55 = .ok (.bipush 48, 2) := by decide +kernel
theorem dX5_digit_57 : decode cX5_digit 57 = .ok (.isub, 1) := by decide +kernel
theorem dX5_digit_58 : decode cX5_digit 58 = .ok (.ireturn, 1) := by decide +kernel
set_option maxRecDepth 20000 in
theorem S_X5_digit_0 {g : GG} {d : Nat} {F : Int32 → St → Prop} (a1 : Int32) (a2 : Int32) (a3 : Int32) (σ : St) (h : ((a1 ≤ (σ 23 9) → F (-9) σ) ∧ (¬ a1 ≤ (σ 23 9) → (vp_in (σ 23 9) 240 ∧ (ME g d M_X5_within [vI (σ 26 ((σ 23 9).toNatClampNeg)), vI (48 + a2), vI (48 + a3)] σ (qI (fun r2 σ3 => ((¬ r2 = 0 → (vp_in (((σ3 23 9) + 1) - 1) 240 ∧ F ((σ3 26 ((((σ3 23 9) + 1) - 1).toNatClampNeg)) - 48) (sU σ3 23 9 ((σ3 23 9) + 1)))) ∧ (r2 = 0 → F (-9) σ3))))))))) : VM g (d + 1) M_X5_digit (qI F) 0 [(0, vR 23), (1, vI a1), (2, vI a2), (3, vI a3)] [] σ := by
  refine VE_aload_n 0 dX5_digit_0 (k := ?_)
  refine VE_getI dX5_digit_1 fl_X5_62 ?_
  refine VE_iload_n 1 dX5_digit_4 (k := ?_)
  refine VE_icmp_ge 31 dX5_digit_5 (fun c1 => ?_) (fun c1 => ?_)
  · refine VE_bipush (-9) dX5_digit_31 (k := ?_)
    exact VM_iret dX5_digit_33 (h.1 c1)
  · refine VE_aload_n 0 dX5_digit_8 (k := ?_)
    refine VE_getR 26 dX5_digit_9 fl_X5_16 ?_
    refine VE_aload_n 0 dX5_digit_12 (k := ?_)
    refine VE_getI dX5_digit_13 fl_X5_62 ?_
    refine VE_iald dX5_digit_16 (h.2 c1).1 ?_
    refine VE_bipush 48 dX5_digit_17 (k := ?_)
    refine VE_iload_n 2 dX5_digit_19 (k := ?_)
    refine VE_iadd dX5_digit_20 ?_
    refine VE_bipush 48 dX5_digit_21 (k := ?_)
    refine VE_iload_n 3 dX5_digit_23 (k := ?_)
    refine VE_iadd dX5_digit_24 ?_
    refine VE_cSi [vI (σ 26 ((σ 23 9).toNatClampNeg)), vI (48 + a2), vI (48 + a3)] dX5_digit_25 ml_X5_55 (h.2 c1).2 (fun r2 σ3 h4 => ?_) (rok_D d)
    refine VE_if_ne 34 dX5_digit_28 (fun c5 => ?_) (fun c5 => ?_)
    · refine VE_aload_n 0 dX5_digit_34 (k := ?_)
      refine VE_dup dX5_digit_35 (k := ?_)
      refine VE_getI dX5_digit_36 fl_X5_62 ?_
      refine VE_iconst 1 dX5_digit_39 (k := ?_)
      refine VE_iadd dX5_digit_40 ?_
      refine VE_put dX5_digit_41 fl_X5_62 ?_
      refine VE_aload_n 0 dX5_digit_44 (k := ?_)
      refine VE_getR 26 dX5_digit_45 fl_X5_16 ?_
      refine VE_aload_n 0 dX5_digit_48 (k := ?_)
      refine VE_getI dX5_digit_49 fl_X5_62 ?_
      refine VE_iconst 1 dX5_digit_52 (k := ?_)
      refine VE_isub dX5_digit_53 ?_
      refine VE_iald dX5_digit_54 (h4.1 c5).1 ?_
      refine VE_bipush 48 dX5_digit_55 (k := ?_)
      refine VE_isub dX5_digit_57 ?_
      exact VM_iret dX5_digit_58 (h4.1 c5).2
    · refine VE_bipush (-9) dX5_digit_31 (k := ?_)
      exact VM_iret dX5_digit_33 (h4.2 c5)
theorem dX5_isSign_0 : decode cX5_isSign 0 = .ok (.aload_n 0, 1) := by decide +kernel
theorem dX5_isSign_1 : decode cX5_isSign 1 = .ok (.getfield 62, 3) := by decide +kernel
theorem dX5_isSign_4 : decode cX5_isSign 4 = .ok (.iload_n 1, 1) := by decide +kernel
theorem dX5_isSign_5 : decode cX5_isSign 5 = .ok (.if_icmp .ge 16, 3) := by decide +kernel
theorem dX5_isSign_8 : decode cX5_isSign 8 = .ok (.aload_n 0, 1) := by decide +kernel
theorem dX5_isSign_9 : decode cX5_isSign 9 = .ok (.getfield 16, 3) := by decide +kernel
theorem dX5_isSign_12 : decode cX5_isSign 12 = .ok (.aload_n 0, 1) := by decide +kernel
theorem dX5_isSign_13 : decode cX5_isSign 13 = .ok (.getfield 62, 3) := by decide +kernel
theorem dX5_isSign_16 : decode cX5_isSign 16 = .ok (.iaload, 1) := by decide +kernel
theorem dX5_isSign_17 : decode cX5_isSign 17 = .ok (.iload_n 2, 1) := by decide +kernel
theorem dX5_isSign_18 : decode cX5_isSign 18 = .ok (.if_icmp .eq 5, 3) := by decide +kernel
theorem dX5_isSign_21 : decode cX5_isSign 21 = .ok (.iconst 0, 1) := by decide +kernel
theorem dX5_isSign_22 : decode cX5_isSign 22 = .ok (.ireturn, 1) := by decide +kernel
theorem dX5_isSign_23 : decode cX5_isSign 23 = .ok (.aload_n 0, 1) := by decide +kernel
theorem dX5_isSign_24 : decode cX5_isSign 24 = .ok (.dup, 1) := by decide +kernel
theorem dX5_isSign_25 : decode cX5_isSign 25 = .ok (.getfield 62, 3) := by decide +kernel
theorem dX5_isSign_28 : decode cX5_isSign 28 = .ok (.iconst 1, 1) := by decide +kernel
theorem dX5_isSign_29 : decode cX5_isSign 29 = .ok (.iadd, 1) := by decide +kernel
theorem dX5_isSign_30 : decode cX5_isSign 30 = .ok (.putfield 62, 3) := by decide +kernel
theorem dX5_isSign_33 : decode cX5_isSign 33 = .ok (.iconst 1, 1) := by decide +kernel
theorem dX5_isSign_34 : decode cX5_isSign 34 = .ok (.ireturn, 1) := by decide +kernel
set_option maxRecDepth 20000 in
theorem S_X5_isSign_0 {g : GG} {d : Nat} {F : Int32 → St → Prop} (a1 : Int32) (a2 : Int32) (σ : St) (h : ((a1 ≤ (σ 23 9) → F 0 σ) ∧ (¬ a1 ≤ (σ 23 9) → (vp_in (σ 23 9) 240 ∧ (((σ 26 ((σ 23 9).toNatClampNeg)) = a2 → F 1 (sU σ 23 9 ((σ 23 9) + 1))) ∧ (¬ (σ 26 ((σ 23 9).toNatClampNeg)) = a2 → F 0 σ)))))) : VM g d M_X5_isSign (qI F) 0 [(0, vR 23), (1, vI a1), (2, vI a2)] [] σ := by
  refine VE_aload_n 0 dX5_isSign_0 (k := ?_)
  refine VE_getI dX5_isSign_1 fl_X5_62 ?_
  refine VE_iload_n 1 dX5_isSign_4 (k := ?_)
  refine VE_icmp_ge 21 dX5_isSign_5 (fun c1 => ?_) (fun c1 => ?_)
  · refine VE_iconst 0 dX5_isSign_21 (k := ?_)
    exact VM_zret dX5_isSign_22 (h.1 c1) (by decide)
  · refine VE_aload_n 0 dX5_isSign_8 (k := ?_)
    refine VE_getR 26 dX5_isSign_9 fl_X5_16 ?_
    refine VE_aload_n 0 dX5_isSign_12 (k := ?_)
    refine VE_getI dX5_isSign_13 fl_X5_62 ?_
    refine VE_iald dX5_isSign_16 (h.2 c1).1 ?_
    refine VE_iload_n 2 dX5_isSign_17 (k := ?_)
    refine VE_icmp_eq 23 dX5_isSign_18 (fun c2 => ?_) (fun c2 => ?_)
    · refine VE_aload_n 0 dX5_isSign_23 (k := ?_)
      refine VE_dup dX5_isSign_24 (k := ?_)
      refine VE_getI dX5_isSign_25 fl_X5_62 ?_
      refine VE_iconst 1 dX5_isSign_28 (k := ?_)
      refine VE_iadd dX5_isSign_29 ?_
      refine VE_put dX5_isSign_30 fl_X5_62 ?_
      refine VE_iconst 1 dX5_isSign_33 (k := ?_)
      exact VM_zret dX5_isSign_34 ((h.2 c1).2.1 c2) (by decide)
    · refine VE_iconst 0 dX5_isSign_21 (k := ?_)
      exact VM_zret dX5_isSign_22 ((h.2 c1).2.2 c2) (by decide)
theorem dX5_court_0 : decode cX5_court 0 = .ok (.aload_n 0, 1) := by decide +kernel
theorem dX5_court_1 : decode cX5_court 1 = .ok (.iconst 0, 1) := by decide +kernel
theorem dX5_court_2 : decode cX5_court 2 = .ok (.putfield 49, 3) := by decide +kernel
theorem dX5_court_5 : decode cX5_court 5 = .ok (.iload_n 1, 1) := by decide +kernel
theorem dX5_court_6 : decode cX5_court 6 = .ok (.invokestatic 65, 3) := by decide +kernel
theorem dX5_court_9 : decode cX5_court 9 = .ok (.ifCond .ne 5, 3) := by decide +kernel
theorem dX5_court_12 : decode cX5_court 12 = .ok (.iconst (-1), 1) := by decide +kernel
theorem dX5_court_13 : decode cX5_court 13 = .ok (.ireturn, 1) := by decide +kernel
theorem dX5_court_14 : decode cX5_court 14 = .ok (.iload_n 2, 1) := by decide +kernel
theorem dX5_court_15 : decode cX5_court 15 = .ok (.invokestatic 69, 3) := by decide +kernel
theorem dX5_court_18 : decode cX5_court 18 = .ok (.ifCond .ne 6, 3) := by decide +kernel
theorem dX5_court_21 : decode cX5_court 21 = .ok (.bipush (-2), 2) := by decide +kernel
theorem dX5_court_23 : decode cX5_court 23 = .ok (.ireturn, 1) := by decide +kernel
theorem dX5_court_24 : decode cX5_court 24 = .ok (.aload_n 0, 1) := by decide +kernel
theorem dX5_court_25 : decode cX5_court 25 = .ok (.iload_n 1, 1) := by decide +kernel
theorem dX5_court_26 : decode cX5_court 26 = .ok (.iload_n 2, 1) := by decide +kernel
theorem dX5_court_27 : decode cX5_court 27 = .ok (.iload_n 3, 1) := by decide +kernel
theorem dX5_court_28 : decode cX5_court 28 = .ok (.iload 4, 2) := by decide +kernel
theorem dX5_court_30 : decode cX5_court 30 = .ok (.invokevirtual 72, 3) := by decide +kernel
theorem dX5_court_33 : decode cX5_court 33 = .ok (.istore 5, 2) := by decide +kernel
theorem dX5_court_35 : decode cX5_court 35 = .ok (.iload 5, 2) := by decide +kernel
theorem dX5_court_37 : decode cX5_court 37 = .ok (.ifCond .eq 10, 3) := by decide +kernel
theorem dX5_court_40 : decode cX5_court 40 = .ok (.aload_n 0, 1) := by decide +kernel
theorem dX5_court_41 : decode cX5_court 41 = .ok (.iload 5, 2) := by decide +kernel
theorem dX5_court_43 : decode cX5_court 43 = .ok (.invokevirtual 76, 3) := by decide +kernel
theorem dX5_court_46 : decode cX5_court 46 = .ok (.ireturn, 1) := by decide +kernel
theorem dX5_court_47 : decode cX5_court 47 = .ok (.bipush 60, 2) := by decide +kernel
theorem dX5_court_49 : decode cX5_court 49 = .ok (.iload_n 1, 1) := by decide +kernel
theorem dX5_court_50 : decode cX5_court 50 = .ok (.imul, 1) := by decide +kernel
theorem dX5_court_51 : decode cX5_court 51 = .ok (.iload_n 3, 1) := by decide +kernel
theorem dX5_court_52 : decode cX5_court 52 = .ok (.iadd, 1) := by decide +kernel
theorem dX5_court_53 : decode cX5_court 53 = .ok (.istore 6, 2) := by decide +kernel
theorem dX5_court_55 : decode cX5_court 55 = .ok (.aload_n 0, 1) := by decide +kernel
theorem dX5_court_56 : decode cX5_court 56 = .ok (.iload 6, 2) := by decide +kernel
theorem dX5_court_58 : decode cX5_court 58 = .ok (.putfield 62, 3) := by decide +kernel
theorem dX5_court_61 : decode cX5_court 61 = .ok (.aload_n 0, 1) := by decide +kernel
theorem dX5_court_62 : decode cX5_court 62 = .ok (.iload 6, 2) := by decide +kernel
theorem dX5_court_64 : decode cX5_court 64 = .ok (.iload 4, 2) := by decide +kernel
theorem dX5_court_66 : decode cX5_court 66 = .ok (.iadd, 1) := by decide +kernel
theorem dX5_court_67 : decode cX5_court 67 = .ok (.invokevirtual 80, 3) := by decide +kernel
theorem dX5_court_70 : decode cX5_court 70 = .ok (.ifCond .ne 14, 3) := by decide +kernel
theorem dX5_court_73 : decode cX5_court 73 = .ok (.bipush (-100), 2) := by decide +kernel
theorem dX5_court_75 : decode cX5_court 75 = .ok (.aload_n 0, 1) := by decide +kernel
theorem dX5_court_76 : decode cX5_court 76 = .ok (.getfield 62, 3) := by decide +kernel
theorem dX5_court_79 : decode cX5_court 79 = .ok (.iload 6, 2) := by decide +kernel
theorem dX5_court_81 : decode cX5_court 81 = .ok (.isub, 1) := by decide +kernel
theorem dX5_court_82 : decode cX5_court 82 = .ok (.isub, 1) := by decide +kernel
theorem dX5_court_83 : decode cX5_court 83 = .ok (.ireturn, 1) := by decide +kernel
theorem dX5_court_84 : decode cX5_court 84 = .ok (.aload_n 0, 1) := by decide +kernel
theorem dX5_court_85 : decode cX5_court 85 = .ok (.aload_n 0, 1) := by decide +kernel
theorem dX5_court_86 : decode cX5_court 86 = .ok (.getfield 83, 3) := by decide +kernel
theorem dX5_court_89 : decode cX5_court 89 = .ok (.putfield 59, 3) := by decide +kernel
theorem dX5_court_92 : decode cX5_court 92 = .ok (.iconst 0, 1) := by decide +kernel
theorem dX5_court_93 : decode cX5_court 93 = .ok (.istore 7, 2) := by decide +kernel
theorem dX5_court_95 : decode cX5_court 95 = .ok (.iload 7, 2) := by decide +kernel
theorem dX5_court_97 : decode cX5_court 97 = .ok (.aload_n 0, 1) := by decide +kernel
theorem dX5_court_98 : decode cX5_court 98 = .ok (.getfield 59, 3) := by decide +kernel
theorem dX5_court_101 : decode cX5_court 101 = .ok (.if_icmp .ge 61, 3) := by decide +kernel
theorem dX5_court_104 : decode cX5_court 104 = .ok (.aload_n 0, 1) := by decide +kernel
theorem dX5_court_105 : decode cX5_court 105 = .ok (.getfield 19, 3) := by decide +kernel
theorem dX5_court_108 : decode cX5_court 108 = .ok (.iload 7, 2) := by decide +kernel
theorem dX5_court_110 : decode cX5_court 110 = .ok (.aload_n 0, 1) := by decide +kernel
theorem dX5_court_111 : decode cX5_court 111 = .ok (.getfield 28, 3) := by decide +kernel
theorem dX5_court_114 : decode cX5_court 114 = .ok (.iconst 3, 1) := by decide +kernel
theorem dX5_court_115 : decode cX5_court 115 = .ok (.iload 7, 2) := by decide +kernel
theorem dX5_court_117 : decode cX5_court 117 = .ok (.imul, 1) := by decide +kernel
theorem dX5_court_118 : decode cX5_court 118 = .ok (.iaload, 1) := by decide +kernel
theorem dX5_court_119 : decode cX5_court 119 = .ok (.iastore, 1) := by decide +kernel
theorem dX5_court_120 : decode cX5_court 120 = .ok (.aload_n 0, 1) := by decide +kernel
theorem dX5_court_121 : decode cX5_court 121 = .ok (.getfield 22, 3) := by decide +kernel
theorem dX5_court_124 : decode cX5_court 124 = .ok (.iload 7, 2) := by decide +kernel
theorem dX5_court_126 : decode cX5_court 126 = .ok (.aload_n 0, 1) := by decide +kernel
theorem dX5_court_127 : decode cX5_court 127 = .ok (.getfield 28, 3) := by decide +kernel
theorem dX5_court_130 : decode cX5_court 130 = .ok (.iconst 3, 1) := by decide +kernel
theorem dX5_court_131 : decode cX5_court 131 = .ok (.iload 7, 2) := by decide +kernel
theorem dX5_court_133 : decode cX5_court 133 = .ok (.imul, 1) := by decide +kernel
theorem dX5_court_134 : decode cX5_court 134 = .ok (.iconst 1, 1) := by decide +kernel
theorem dX5_court_135 : decode cX5_court 135 = .ok (.iadd, 1) := by decide +kernel
theorem dX5_court_136 : decode cX5_court 136 = .ok (.iaload, 1) := by decide +kernel
theorem dX5_court_137 : decode cX5_court 137 = .ok (.iastore, 1) := by decide +kernel
theorem dX5_court_138 : decode cX5_court 138 = .ok (.aload_n 0, 1) := by decide +kernel
theorem dX5_court_139 : decode cX5_court 139 = .ok (.getfield 25, 3) := by decide +kernel
theorem dX5_court_142 : decode cX5_court 142 = .ok (.iload 7, 2) := by decide +kernel
theorem dX5_court_144 : decode cX5_court 144 = .ok (.aload_n 0, 1) := by decide +kernel
theorem dX5_court_145 : decode cX5_court 145 = .ok (.getfield 28, 3) := by decide +kernel
theorem dX5_court_148 : decode cX5_court 148 = .ok (.iconst 3, 1) := by decide +kernel
theorem dX5_court_149 : decode cX5_court 149 = .ok (.iload 7, 2) := by decide +kernel
theorem dX5_court_151 : decode cX5_court 151 = .ok (.imul, 1) := by decide +kernel
theorem dX5_court_152 : decode cX5_court 152 = .ok (.iconst 2, 1) := by decide +kernel
theorem dX5_court_153 : decode cX5_court 153 = .ok (.iadd, 1) := by decide +kernel
theorem dX5_court_154 : decode cX5_court 154 = .ok (.iaload, 1) := by decide +kernel
theorem dX5_court_155 : decode cX5_court 155 = .ok (.iastore, 1) := by decide +kernel
theorem dX5_court_156 : decode cX5_court 156 = .ok (.iinc 7 1, 3) := by decide +kernel
theorem dX5_court_159 : decode cX5_court 159 = .ok (.goto (-64), 3) := by decide +kernel
theorem dX5_court_162 : decode cX5_court 162 = .ok (.aload_n 0, 1) := by decide +kernel
theorem dX5_court_163 : decode cX5_court 163 = .ok (.iconst 0, 1) := by decide +kernel
theorem dX5_court_164 : decode cX5_court 164 = .ok (.putfield 86, 3) := by decide +kernel
theorem dX5_court_167 : decode cX5_court 167 = .ok (.aload_n 0, 1) := by decide +kernel
theorem dX5_court_168 : decode cX5_court 168 = .ok (.getfield 59, 3) := by decide +kernel
theorem dX5_court_171 : decode cX5_court 171 = .ok (.ireturn, 1) := by decide +kernel
set_option maxRecDepth 20000 in
theorem S_X5_court_0 {g : GG} {d : Nat} {F : Int32 → St → Prop} (a1 : Int32) (a2 : Int32) (a3 : Int32) (a4 : Int32) (σ : St) (h : (ME g d M_X5_isSheet [vI a1] (sU σ 23 0 0) (qI (fun r1 σ2 => ((¬ r1 = 0 → (ME g d M_X5_isSort [vI a2] σ2 (qI (fun r5 σ6 => ((¬ r5 = 0 → (ME g d M_X5_against [vR 23, vI a1, vI a2, vI a3, vI a4] σ6 (qI (fun r9 σ10 => ((r9 = 0 → (ME g d M_X5_readCourt [vR 23, vI (((60 * a1) + a3) + a4)] (sU σ10 23 9 ((60 * a1) + a3)) (qI (fun r13 σ14 => ((¬ r13 = 0 → VM g (d + 1) M_X5_court (qI F) 95 [(0, vR 23), (1, vI a1), (2, vI a2), (3, vI a3), (4, vI a4), (5, vI r9), (6, vI ((60 * a1) + a3)), (7, vI 0)] [] (sU σ14 23 5 (σ14 23 10))) ∧ (r13 = 0 → F ((-100) - ((σ14 23 9) - ((60 * a1) + a3))) σ14)))))) ∧ (¬ r9 = 0 → (ME g d M_X5_fails [vR 23, vI r9] σ10 (qI (fun r17 σ18 => F r17 σ18))))))))) ∧ (r5 = 0 → F (-2) σ6)))))) ∧ (r1 = 0 → F (-1) σ2)))))) : VM g (d + 1) M_X5_court (qI F) 0 [(0, vR 23), (1, vI a1), (2, vI a2), (3, vI a3), (4, vI a4)] [] σ := by
  refine VE_aload_n 0 dX5_court_0 (k := ?_)
  refine VE_iconst 0 dX5_court_1 (k := ?_)
  refine VE_put dX5_court_2 fl_X5_49 ?_
  refine VE_iload_n 1 dX5_court_5 (k := ?_)
  refine VE_cSi [vI a1] dX5_court_6 ml_X5_65 h (fun r1 σ2 h3 => ?_) (rok_D d)
  refine VE_if_ne 14 dX5_court_9 (fun c4 => ?_) (fun c4 => ?_)
  · refine VE_iload_n 2 dX5_court_14 (k := ?_)
    refine VE_cSi [vI a2] dX5_court_15 ml_X5_69 (h3.1 c4) (fun r5 σ6 h7 => ?_) (rok_D d)
    refine VE_if_ne 24 dX5_court_18 (fun c8 => ?_) (fun c8 => ?_)
    · refine VE_aload_n 0 dX5_court_24 (k := ?_)
      refine VE_iload_n 1 dX5_court_25 (k := ?_)
      refine VE_iload_n 2 dX5_court_26 (k := ?_)
      refine VE_iload_n 3 dX5_court_27 (k := ?_)
      refine VE_iload 4 dX5_court_28 (k := ?_)
      refine VE_cVi [vI a1, vI a2, vI a3, vI a4] dX5_court_30 ml_X5_72 (h7.1 c8) (fun r9 σ10 h11 => ?_) (rok_D d)
      refine VE_istore (ls' := [(5, vI r9), (0, vR 23), (1, vI a1), (2, vI a2), (3, vI a3), (4, vI a4)]) dX5_court_33 ?_
      refine VE_iload 0 dX5_court_35 (k := ?_)
      refine VE_if_eq 47 dX5_court_37 (fun c12 => ?_) (fun c12 => ?_)
      · refine VE_bipush 60 dX5_court_47 (k := ?_)
        refine VE_iload_n 2 dX5_court_49 (k := ?_)
        refine VE_imul dX5_court_50 ?_
        refine VE_iload_n 4 dX5_court_51 (k := ?_)
        refine VE_iadd dX5_court_52 ?_
        refine VE_istore (ls' := [(6, vI ((60 * a1) + a3)), (5, vI r9), (0, vR 23), (1, vI a1), (2, vI a2), (3, vI a3), (4, vI a4)]) dX5_court_53 ?_
        refine VE_aload_n 2 dX5_court_55 (k := ?_)
        refine VE_iload 0 dX5_court_56 (k := ?_)
        refine VE_put dX5_court_58 fl_X5_62 ?_
        refine VE_aload_n 2 dX5_court_61 (k := ?_)
        refine VE_iload 0 dX5_court_62 (k := ?_)
        refine VE_iload 6 dX5_court_64 (k := ?_)
        refine VE_iadd dX5_court_66 ?_
        refine VE_cVi [vI (((60 * a1) + a3) + a4)] dX5_court_67 ml_X5_80 (h11.1 c12) (fun r13 σ14 h15 => ?_) (rok_D d)
        refine VE_if_ne 84 dX5_court_70 (fun c16 => ?_) (fun c16 => ?_)
        · refine VE_aload_n 2 dX5_court_84 (k := ?_)
          refine VE_aload_n 2 dX5_court_85 (k := ?_)
          refine VE_getI dX5_court_86 fl_X5_83 ?_
          refine VE_put dX5_court_89 fl_X5_59 ?_
          refine VE_iconst 0 dX5_court_92 (k := ?_)
          refine VE_istore (ls' := [(7, vI 0), (6, vI ((60 * a1) + a3)), (5, vI r9), (0, vR 23), (1, vI a1), (2, vI a2), (3, vI a3), (4, vI a4)]) dX5_court_93 ?_
          exact VE_sub [3, 4, 5, 6, 7, 2, 1, 0] rfl (h15.1 c16)
        · refine VE_bipush (-100) dX5_court_73 (k := ?_)
          refine VE_aload_n 2 dX5_court_75 (k := ?_)
          refine VE_getI dX5_court_76 fl_X5_62 ?_
          refine VE_iload 0 dX5_court_79 (k := ?_)
          refine VE_isub dX5_court_81 ?_
          refine VE_isub dX5_court_82 ?_
          exact VM_iret dX5_court_83 (h15.2 c16)
      · refine VE_aload_n 1 dX5_court_40 (k := ?_)
        refine VE_iload 0 dX5_court_41 (k := ?_)
        refine VE_cVi [vI r9] dX5_court_43 ml_X5_76 (h11.2 c12) (fun r17 σ18 h19 => ?_) (rok_D d)
        exact VM_iret dX5_court_46 h19
    · refine VE_bipush (-2) dX5_court_21 (k := ?_)
      exact VM_iret dX5_court_23 (h7.2 c8)
  · refine VE_iconst (-1) dX5_court_12 (k := ?_)
    exact VM_iret dX5_court_13 (h3.2 c4)
set_option maxRecDepth 20000 in
theorem S_X5_court_95 {g : GG} {d : Nat} {F : Int32 → St → Prop} (x1 : Int32) (x2 : Int32) (x3 : Int32) (x4 : Int32) (x5 : Int32) (x6 : Int32) (x7 : Int32) (σ : St) (h : (((σ 23 5) ≤ x7 → F (σ 23 5) (sU σ 23 18 0)) ∧ (¬ (σ 23 5) ≤ x7 → (vp_in (3 * x7) 15 ∧ (vp_in x7 5 ∧ (vp_in ((3 * x7) + 1) 15 ∧ (vp_in ((3 * x7) + 2) 15 ∧ VM g (d + 1) M_X5_court (qI F) 95 [(0, vR 23), (1, vI x1), (2, vI x2), (3, vI x3), (4, vI x4), (5, vI x5), (6, vI x6), (7, vI (x7 + 1))] [] (sU (sU (sU σ 27 x7.toNatClampNeg (σ 30 ((3 * x7).toNatClampNeg))) 28 x7.toNatClampNeg (σ 30 (((3 * x7) + 1).toNatClampNeg))) 29 x7.toNatClampNeg (σ 30 (((3 * x7) + 2).toNatClampNeg)))))))))) : VM g (d + 1) M_X5_court (qI F) 95 [(0, vR 23), (1, vI x1), (2, vI x2), (3, vI x3), (4, vI x4), (5, vI x5), (6, vI x6), (7, vI x7)] [] σ := by
  refine VE_iload 7 dX5_court_95 (k := ?_)
  refine VE_aload_n 0 dX5_court_97 (k := ?_)
  refine VE_getI dX5_court_98 fl_X5_59 ?_
  refine VE_icmp_ge 162 dX5_court_101 (fun c1 => ?_) (fun c1 => ?_)
  · refine VE_aload_n 0 dX5_court_162 (k := ?_)
    refine VE_iconst 0 dX5_court_163 (k := ?_)
    refine VE_put dX5_court_164 fl_X5_86 ?_
    refine VE_aload_n 0 dX5_court_167 (k := ?_)
    refine VE_getI dX5_court_168 fl_X5_59 ?_
    exact VM_iret dX5_court_171 (h.1 c1)
  · refine VE_aload_n 0 dX5_court_104 (k := ?_)
    refine VE_getR 27 dX5_court_105 fl_X5_19 ?_
    refine VE_iload 7 dX5_court_108 (k := ?_)
    refine VE_aload_n 0 dX5_court_110 (k := ?_)
    refine VE_getR 30 dX5_court_111 fl_X5_28 ?_
    refine VE_iconst 3 dX5_court_114 (k := ?_)
    refine VE_iload 7 dX5_court_115 (k := ?_)
    refine VE_imul dX5_court_117 ?_
    refine VE_iald dX5_court_118 (h.2 c1).1 ?_
    refine VE_iast dX5_court_119 (h.2 c1).2.1 ?_
    refine VE_aload_n 0 dX5_court_120 (k := ?_)
    refine VE_getR 28 dX5_court_121 fl_X5_22 ?_
    refine VE_iload 7 dX5_court_124 (k := ?_)
    refine VE_aload_n 0 dX5_court_126 (k := ?_)
    refine VE_getR 30 dX5_court_127 fl_X5_28 ?_
    refine VE_iconst 3 dX5_court_130 (k := ?_)
    refine VE_iload 7 dX5_court_131 (k := ?_)
    refine VE_imul dX5_court_133 ?_
    refine VE_iconst 1 dX5_court_134 (k := ?_)
    refine VE_iadd dX5_court_135 ?_
    refine VE_iald dX5_court_136 (h.2 c1).2.2.1 ?_
    refine VE_iast dX5_court_137 (h.2 c1).2.1 ?_
    refine VE_aload_n 0 dX5_court_138 (k := ?_)
    refine VE_getR 29 dX5_court_139 fl_X5_25 ?_
    refine VE_iload 7 dX5_court_142 (k := ?_)
    refine VE_aload_n 0 dX5_court_144 (k := ?_)
    refine VE_getR 30 dX5_court_145 fl_X5_28 ?_
    refine VE_iconst 3 dX5_court_148 (k := ?_)
    refine VE_iload 7 dX5_court_149 (k := ?_)
    refine VE_imul dX5_court_151 ?_
    refine VE_iconst 2 dX5_court_152 (k := ?_)
    refine VE_iadd dX5_court_153 ?_
    refine VE_iald dX5_court_154 (h.2 c1).2.2.2.1 ?_
    refine VE_iast dX5_court_155 (h.2 c1).2.1 ?_
    refine VE_iinc 7 (x7 + 1) (ls' := [(7, vI (x7 + 1)), (0, vR 23), (1, vI x1), (2, vI x2), (3, vI x3), (4, vI x4), (5, vI x5), (6, vI x6)]) dX5_court_156 ?_
    refine VE_goto 95 dX5_court_159 ?_
    exact VE_sub [1, 2, 3, 4, 5, 6, 7, 0] rfl (h.2 c1).2.2.2.2
theorem dX5_readCourt_0 : decode cX5_readCourt 0 = .ok (.aload_n 0, 1) := by decide +kernel
theorem dX5_readCourt_1 : decode cX5_readCourt 1 = .ok (.iconst 0, 1) := by decide +kernel
theorem dX5_readCourt_2 : decode cX5_readCourt 2 = .ok (.putfield 83, 3) := by decide +kernel
theorem dX5_readCourt_5 : decode cX5_readCourt 5 = .ok (.aload_n 0, 1) := by decide +kernel
theorem dX5_readCourt_6 : decode cX5_readCourt 6 = .ok (.iload_n 1, 1) := by decide +kernel
theorem dX5_readCourt_7 : decode cX5_readCourt 7 = .ok (.bipush 109, 2) := by decide +kernel
theorem dX5_readCourt_9 : decode cX5_readCourt 9 = .ok (.invokevirtual 89, 3) := by decide +kernel
theorem dX5_readCourt_12 : decode cX5_readCourt 12 = .ok (.ifCond .ne 5, 3) := by decide +kernel
theorem dX5_readCourt_15 : decode cX5_readCourt 15 = .ok (.iconst 0, 1) := by decide +kernel
theorem dX5_readCourt_16 : decode cX5_readCourt 16 = .ok (.ireturn, 1) := by decide +kernel
theorem dX5_readCourt_17 : decode cX5_readCourt 17 = .ok (.aload_n 0, 1) := by decide +kernel
theorem dX5_readCourt_18 : decode cX5_readCourt 18 = .ok (.getfield 83, 3) := by decide +kernel
theorem dX5_readCourt_21 : decode cX5_readCourt 21 = .ok (.iconst 2, 1) := by decide +kernel
theorem dX5_readCourt_22 : decode cX5_readCourt 22 = .ok (.if_icmp .lt 19, 3) := by decide +kernel
theorem dX5_readCourt_25 : decode cX5_readCourt 25 = .ok (.aload_n 0, 1) := by decide +kernel
theorem dX5_readCourt_26 : decode cX5_readCourt 26 = .ok (.getfield 83, 3) := by decide +kernel
theorem dX5_readCourt_29 : decode cX5_readCourt 29 = .ok (.iconst 5, 1) := by decide +kernel
theorem dX5_readCourt_30 : decode cX5_readCourt 30 = .ok (.if_icmp .ge 31, 3) := by decide +kernel
theorem dX5_readCourt_33 : decode cX5_readCourt 33 = .ok (.aload_n 0, 1) := by decide +kernel
theorem dX5_readCourt_34 : decode cX5_readCourt 34 = .ok (.getfield 62, 3) := by decide +kernel
theorem dX5_readCourt_37 : decode cX5_readCourt 37 = .ok (.iload_n 1, 1) := by decide +kernel
theorem dX5_readCourt_38 : decode cX5_readCourt 38 = .ok (.if_icmp .ge 23, 3) := by decide +kernel
theorem dX5_readCourt_41 : decode cX5_readCourt 41 = .ok (.aload_n 0, 1) := by decide +kernel
theorem dX5_readCourt_42 : decode cX5_readCourt 42 = .ok (.iload_n 1, 1) := by decide +kernel
theorem dX5_readCourt_43 : decode cX5_readCourt 43 = .ok (.bipush 59, 2) := by decide +kernel
theorem dX5_readCourt_45 : decode cX5_readCourt 45 = .ok (.invokevirtual 89, 3) := by decide +kernel
theorem dX5_readCourt_48 : decode cX5_readCourt 48 = .ok (.ifCond .eq 11, 3) := by decide +kernel
theorem dX5_readCourt_51 : decode cX5_readCourt 51 = .ok (.aload_n 0, 1) := by decide +kernel
theorem dX5_readCourt_52 : decode cX5_readCourt 52 = .ok (.iload_n 1, 1) := by decide +kernel
theorem dX5_readCourt_53 : decode cX5_readCourt 53 = .ok (.invokevirtual 93, 3) := by decide +kernel
theorem dX5_readCourt_56 : decode cX5_readCourt 56 = .ok (.ifCond .ne (-39), 3) := by decide +kernel
theorem dX5_readCourt_59 : decode cX5_readCourt 59 = .ok (.iconst 0, 1) := by decide +kernel
theorem dX5_readCourt_60 : decode cX5_readCourt 60 = .ok (.ireturn, 1) := by decide +kernel
theorem dX5_readCourt_61 : decode cX5_readCourt 61 = .ok (.aload_n 0, 1) := by decide +kernel
theorem dX5_readCourt_62 : decode cX5_readCourt 62 = .ok (.getfield 62, 3) := by decide +kernel
theorem dX5_readCourt_65 : decode cX5_readCourt 65 = .ok (.iload_n 1, 1) := by decide +kernel
theorem dX5_readCourt_66 : decode cX5_readCourt 66 = .ok (.if_icmp .ne 7, 3) := by decide +kernel
theorem dX5_readCourt_69 : decode cX5_readCourt 69 = .ok (.iconst 1, 1) := by decide +kernel
theorem dX5_readCourt_70 : decode cX5_readCourt 70 = .ok (.goto 4, 3) := by decide +kernel
theorem dX5_readCourt_73 : decode cX5_readCourt 73 = .ok (.iconst 0, 1) := by decide +kernel
theorem dX5_readCourt_74 : decode cX5_readCourt 74 = .ok (.ireturn, 1) := by decide +kernel
set_option maxRecDepth 20000 in
theorem S_X5_readCourt_0 {g : GG} {d : Nat} {F : Int32 → St → Prop} (a1 : Int32) (σ : St) (h : (ME g d M_X5_isSign [vR 23, vI a1, vI 109] (sU σ 23 10 0) (qI (fun r1 σ2 => ((¬ r1 = 0 → VM g (d + 1) M_X5_readCourt (qI F) 17 [(0, vR 23), (1, vI a1)] [] σ2) ∧ (r1 = 0 → F 0 σ2)))))) : VM g (d + 1) M_X5_readCourt (qI F) 0 [(0, vR 23), (1, vI a1)] [] σ := by
  refine VE_aload_n 0 dX5_readCourt_0 (k := ?_)
  refine VE_iconst 0 dX5_readCourt_1 (k := ?_)
  refine VE_put dX5_readCourt_2 fl_X5_83 ?_
  refine VE_aload_n 0 dX5_readCourt_5 (k := ?_)
  refine VE_iload_n 1 dX5_readCourt_6 (k := ?_)
  refine VE_bipush 109 dX5_readCourt_7 (k := ?_)
  refine VE_cVi [vI a1, vI 109] dX5_readCourt_9 ml_X5_89 h (fun r1 σ2 h3 => ?_) (rok_D d)
  refine VE_if_ne 17 dX5_readCourt_12 (fun c4 => ?_) (fun c4 => ?_)
  · exact VE_sub [0, 1] rfl (h3.1 c4)
  · refine VE_iconst 0 dX5_readCourt_15 (k := ?_)
    exact VM_zret dX5_readCourt_16 (h3.2 c4) (by decide)
set_option maxRecDepth 20000 in
theorem S_X5_readCourt_17 {g : GG} {d : Nat} {F : Int32 → St → Prop} (x1 : Int32) (σ : St) (h : (((σ 23 10) < 2 → (ME g d M_X5_isSign [vR 23, vI x1, vI 59] σ (qI (fun r2 σ3 => ((r2 = 0 → F 0 σ3) ∧ (¬ r2 = 0 → (ME g d M_X5_readHead [vR 23, vI x1] σ3 (qI (fun r6 σ7 => ((¬ r6 = 0 → VM g (d + 1) M_X5_readCourt (qI F) 17 [(0, vR 23), (1, vI x1)] [] σ7) ∧ (r6 = 0 → F 0 σ7))))))))))) ∧ (¬ (σ 23 10) < 2 → ((5 ≤ (σ 23 10) → ((¬ (σ 23 9) = x1 → F 0 σ) ∧ ((σ 23 9) = x1 → F 1 σ))) ∧ (¬ 5 ≤ (σ 23 10) → ((x1 ≤ (σ 23 9) → ((¬ (σ 23 9) = x1 → F 0 σ) ∧ ((σ 23 9) = x1 → F 1 σ))) ∧ (¬ x1 ≤ (σ 23 9) → (ME g d M_X5_isSign [vR 23, vI x1, vI 59] σ (qI (fun r14 σ15 => ((r14 = 0 → F 0 σ15) ∧ (¬ r14 = 0 → (ME g d M_X5_readHead [vR 23, vI x1] σ15 (qI (fun r18 σ19 => ((¬ r18 = 0 → VM g (d + 1) M_X5_readCourt (qI F) 17 [(0, vR 23), (1, vI x1)] [] σ19) ∧ (r18 = 0 → F 0 σ19))))))))))))))))) : VM g (d + 1) M_X5_readCourt (qI F) 17 [(0, vR 23), (1, vI x1)] [] σ := by
  refine VE_aload_n 0 dX5_readCourt_17 (k := ?_)
  refine VE_getI dX5_readCourt_18 fl_X5_83 ?_
  refine VE_iconst 2 dX5_readCourt_21 (k := ?_)
  refine VE_icmp_lt 41 dX5_readCourt_22 (fun c1 => ?_) (fun c1 => ?_)
  · refine VE_aload_n 0 dX5_readCourt_41 (k := ?_)
    refine VE_iload_n 1 dX5_readCourt_42 (k := ?_)
    refine VE_bipush 59 dX5_readCourt_43 (k := ?_)
    refine VE_cVi [vI x1, vI 59] dX5_readCourt_45 ml_X5_89 (h.1 c1) (fun r2 σ3 h4 => ?_) (rok_D d)
    refine VE_if_eq 59 dX5_readCourt_48 (fun c5 => ?_) (fun c5 => ?_)
    · refine VE_iconst 0 dX5_readCourt_59 (k := ?_)
      exact VM_zret dX5_readCourt_60 (h4.1 c5) (by decide)
    · refine VE_aload_n 0 dX5_readCourt_51 (k := ?_)
      refine VE_iload_n 1 dX5_readCourt_52 (k := ?_)
      refine VE_cVi [vI x1] dX5_readCourt_53 ml_X5_93 (h4.2 c5) (fun r6 σ7 h8 => ?_) (rok_D d)
      refine VE_if_ne 17 dX5_readCourt_56 (fun c9 => ?_) (fun c9 => ?_)
      · exact VE_sub [0, 1] rfl (h8.1 c9)
      · refine VE_iconst 0 dX5_readCourt_59 (k := ?_)
        exact VM_zret dX5_readCourt_60 (h8.2 c9) (by decide)
  · refine VE_aload_n 0 dX5_readCourt_25 (k := ?_)
    refine VE_getI dX5_readCourt_26 fl_X5_83 ?_
    refine VE_iconst 5 dX5_readCourt_29 (k := ?_)
    refine VE_icmp_ge 61 dX5_readCourt_30 (fun c10 => ?_) (fun c10 => ?_)
    · refine VE_aload_n 0 dX5_readCourt_61 (k := ?_)
      refine VE_getI dX5_readCourt_62 fl_X5_62 ?_
      refine VE_iload_n 1 dX5_readCourt_65 (k := ?_)
      refine VE_icmp_ne 73 dX5_readCourt_66 (fun c11 => ?_) (fun c11 => ?_)
      · refine VE_iconst 0 dX5_readCourt_73 (k := ?_)
        exact VM_zret dX5_readCourt_74 (((h.2 c1).1 c10).1 c11) (by decide)
      · refine VE_iconst 1 dX5_readCourt_69 (k := ?_)
        refine VE_goto 74 dX5_readCourt_70 ?_
        exact VM_zret dX5_readCourt_74 (((h.2 c1).1 c10).2 c11) (by decide)
    · refine VE_aload_n 0 dX5_readCourt_33 (k := ?_)
      refine VE_getI dX5_readCourt_34 fl_X5_62 ?_
      refine VE_iload_n 1 dX5_readCourt_37 (k := ?_)
      refine VE_icmp_ge 61 dX5_readCourt_38 (fun c12 => ?_) (fun c12 => ?_)
      · refine VE_aload_n 0 dX5_readCourt_61 (k := ?_)
        refine VE_getI dX5_readCourt_62 fl_X5_62 ?_
        refine VE_iload_n 1 dX5_readCourt_65 (k := ?_)
        refine VE_icmp_ne 73 dX5_readCourt_66 (fun c13 => ?_) (fun c13 => ?_)
        · refine VE_iconst 0 dX5_readCourt_73 (k := ?_)
          exact VM_zret dX5_readCourt_74 ((((h.2 c1).2 c10).1 c12).1 c13) (by decide)
        · refine VE_iconst 1 dX5_readCourt_69 (k := ?_)
          refine VE_goto 74 dX5_readCourt_70 ?_
          exact VM_zret dX5_readCourt_74 ((((h.2 c1).2 c10).1 c12).2 c13) (by decide)
      · refine VE_aload_n 0 dX5_readCourt_41 (k := ?_)
        refine VE_iload_n 1 dX5_readCourt_42 (k := ?_)
        refine VE_bipush 59 dX5_readCourt_43 (k := ?_)
        refine VE_cVi [vI x1, vI 59] dX5_readCourt_45 ml_X5_89 (((h.2 c1).2 c10).2 c12) (fun r14 σ15 h16 => ?_) (rok_D d)
        refine VE_if_eq 59 dX5_readCourt_48 (fun c17 => ?_) (fun c17 => ?_)
        · refine VE_iconst 0 dX5_readCourt_59 (k := ?_)
          exact VM_zret dX5_readCourt_60 (h16.1 c17) (by decide)
        · refine VE_aload_n 0 dX5_readCourt_51 (k := ?_)
          refine VE_iload_n 1 dX5_readCourt_52 (k := ?_)
          refine VE_cVi [vI x1] dX5_readCourt_53 ml_X5_93 (h16.2 c17) (fun r18 σ19 h20 => ?_) (rok_D d)
          refine VE_if_ne 17 dX5_readCourt_56 (fun c21 => ?_) (fun c21 => ?_)
          · exact VE_sub [0, 1] rfl (h20.1 c21)
          · refine VE_iconst 0 dX5_readCourt_59 (k := ?_)
            exact VM_zret dX5_readCourt_60 (h20.2 c21) (by decide)
theorem dX5_readHead_0 : decode cX5_readHead 0 = .ok (.iconst 3, 1) := by decide +kernel
theorem dX5_readHead_1 : decode cX5_readHead 1 = .ok (.aload_n 0, 1) := by decide +kernel
theorem dX5_readHead_2 : decode cX5_readHead 2 = .ok (.getfield 83, 3) := by decide +kernel
theorem dX5_readHead_5 : decode cX5_readHead 5 = .ok (.imul, 1) := by decide +kernel
theorem dX5_readHead_6 : decode cX5_readHead 6 = .ok (.istore_n 2, 1) := by decide +kernel
theorem dX5_readHead_7 : decode cX5_readHead 7 = .ok (.aload_n 0, 1) := by decide +kernel
theorem dX5_readHead_8 : decode cX5_readHead 8 = .ok (.getfield 62, 3) := by decide +kernel
theorem dX5_readHead_11 : decode cX5_readHead 11 = .ok (.iload_n 1, 1) := by decide +kernel
theorem dX5_readHead_12 : decode cX5_readHead 12 = .ok (.if_icmp .ge 15, 3) := by decide +kernel
theorem dX5_readHead_15 : decode cX5_readHead 15 = .ok (.aload_n 0, 1) := by decide +kernel
theorem dX5_readHead_16 : decode cX5_readHead 16 = .ok (.getfield 16, 3) := by decide +kernel
theorem dX5_readHead_19 : decode cX5_readHead 19 = .ok (.aload_n 0, 1) := by decide +kernel
theorem dX5_readHead_20 : decode cX5_readHead 20 = .ok (.getfield 62, 3) := by decide +kernel
theorem dX5_readHead_23 : decode cX5_readHead 23 = .ok (.iaload, 1) := by decide +kernel
theorem dX5_readHead_24 : decode cX5_readHead 24 = .ok (.goto 4, 3) := by decide +kernel
theorem dX5_readHead_27 : decode cX5_readHead 27 = .ok (.iconst 0, 1) := by decide +kernel
theorem dX5_readHead_28 : decode cX5_readHead 28 = .ok (.istore_n 3, 1) := by decide +kernel
theorem dX5_readHead_29 : decode cX5_readHead 29 = .ok (.aload_n 0, 1) := by decide +kernel
theorem dX5_readHead_30 : decode cX5_readHead 30 = .ok (.getfield 28, 3) := by decide +kernel
theorem dX5_readHead_33 : decode cX5_readHead 33 = .ok (.iload_n 2, 1) := by decide +kernel
theorem dX5_readHead_34 : decode cX5_readHead 34 = .ok (.iload_n 3, 1) := by decide +kernel
theorem dX5_readHead_35 : decode cX5_readHead 35 = .ok (.bipush 104, 2) := by decide +kernel
theorem dX5_readHead_37 : decode cX5_readHead 37 = .ok (.if_icmp .ne 7, 3) := by decide +kernel
theorem dX5_readHead_40 : decode cX5_readHead 40 = .ok (.iconst 0, 1) := by decide +kernel
theorem dX5_readHead_41 : decode cX5_readHead 41 = .ok (.goto 25, 3) := by decide +kernel
theorem dX5_readHead_44 : decode cX5_readHead 44 = .ok (.iload_n 3, 1) := by decide +kernel
theorem dX5_readHead_45 : decode cX5_readHead 45 = .ok (.bipush 108, 2) := by decide +kernel
theorem dX5_readHead_47 : decode cX5_readHead 47 = .ok (.if_icmp .ne 7, 3) := by decide +kernel
theorem dX5_readHead_50 : decode cX5_readHead 50 = .ok (.iconst 1, 1) := by decide +kernel
theorem dX5_readHead_51 : decode cX5_readHead 51 = .ok (.goto 15, 3) := by decide +kernel
theorem dX5_readHead_54 : decode cX5_readHead 54 = .ok (.iload_n 3, 1) := by decide +kernel
theorem dX5_readHead_55 : decode cX5_readHead 55 = .ok (.bipush 115, 2) := by decide +kernel
theorem dX5_readHead_57 : decode cX5_readHead 57 = .ok (.if_icmp .ne 7, 3) := by decide +kernel
theorem dX5_readHead_60 : decode cX5_readHead 60 = .ok (.iconst 2, 1) := by decide +kernel
theorem dX5_readHead_61 : decode cX5_readHead 61 = .ok (.goto 5, 3) := by decide +kernel
theorem dX5_readHead_64 : decode cX5_readHead 64 = .ok (.bipush (-9), 2) := by decide +kernel
theorem dX5_readHead_66 : decode cX5_readHead 66 = .ok (.iastore, 1) := by decide +kernel
theorem dX5_readHead_67 : decode cX5_readHead 67 = .ok (.aload_n 0, 1) := by decide +kernel
theorem dX5_readHead_68 : decode cX5_readHead 68 = .ok (.getfield 28, 3) := by decide +kernel
theorem dX5_readHead_71 : decode cX5_readHead 71 = .ok (.iload_n 2, 1) := by decide +kernel
theorem dX5_readHead_72 : decode cX5_readHead 72 = .ok (.iaload, 1) := by decide +kernel
theorem dX5_readHead_73 : decode cX5_readHead 73 = .ok (.bipush (-9), 2) := by decide +kernel
theorem dX5_readHead_75 : decode cX5_readHead 75 = .ok (.if_icmp .ne 5, 3) := by decide +kernel
theorem dX5_readHead_78 : decode cX5_readHead 78 = .ok (.iconst 0, 1) := by decide +kernel
theorem dX5_readHead_79 : decode cX5_readHead 79 = .ok (.ireturn, 1) := by decide +kernel
theorem dX5_readHead_80 : decode cX5_readHead 80 = .ok (.aload_n 0, 1) := by decide +kernel
theorem dX5_readHead_81 : decode cX5_readHead 81 = .ok (.dup, 1) := by decide +kernel
theorem dX5_readHead_82 : decode cX5_readHead 82 = .ok (.getfield 62, 3) := by decide +kernel
theorem dX5_readHead_85 : decode cX5_readHead 85 = .ok (.iconst 1, 1) := by decide +kernel
theorem dX5_readHead_86 : decode cX5_readHead 86 = .ok (.iadd, 1) := by decide +kernel
theorem dX5_readHead_87 : decode cX5_readHead 87 = .ok (.putfield 62, 3) := by decide +kernel
theorem dX5_readHead_90 : decode cX5_readHead 90 = .ok (.aload_n 0, 1) := by decide +kernel
theorem dX5_readHead_91 : decode cX5_readHead 91 = .ok (.getfield 28, 3) := by decide +kernel
theorem dX5_readHead_94 : decode cX5_readHead 94 = .ok (.iload_n 2, 1) := by decide +kernel
theorem dX5_readHead_95 : decode cX5_readHead 95 = .ok (.iconst 1, 1) := by decide +kernel
theorem dX5_readHead_96 : decode cX5_readHead 96 = .ok (.iadd, 1) := by decide +kernel
theorem dX5_readHead_97 : decode cX5_readHead 97 = .ok (.aload_n 0, 1) := by decide +kernel
theorem dX5_readHead_98 : decode cX5_readHead 98 = .ok (.iload_n 1, 1) := by decide +kernel
theorem dX5_readHead_99 : decode cX5_readHead 99 = .ok (.iconst 1, 1) := by decide +kernel
theorem dX5_readHead_100 : decode cX5_readHead 100 = .ok (.bipush 9, 2) := by decide +kernel
theorem dX5_readHead_102 : decode cX5_readHead 102 = .ok (.invokevirtual 96, 3) := by decide +kernel
theorem dX5_readHead_105 : decode cX5_readHead 105 = .ok (.iastore, 1) := by decide +kernel
theorem dX5_readHead_106 : decode cX5_readHead 106 = .ok (.aload_n 0, 1) := by decide +kernel
theorem dX5_readHead_107 : decode cX5_readHead 107 = .ok (.getfield 28, 3) := by decide +kernel
theorem dX5_readHead_110 : decode cX5_readHead 110 = .ok (.iload_n 2, 1) := by decide +kernel
theorem dX5_readHead_111 : decode cX5_readHead 111 = .ok (.iconst 1, 1) := by decide +kernel
theorem dX5_readHead_112 : decode cX5_readHead 112 = .ok (.iadd, 1) := by decide +kernel
theorem dX5_readHead_113 : decode cX5_readHead 113 = .ok (.iaload, 1) := by decide +kernel
theorem dX5_readHead_114 : decode cX5_readHead 114 = .ok (.bipush (-9), 2) := by decide +kernel
theorem dX5_readHead_116 : decode cX5_readHead 116 = .ok (.if_icmp .ne 5, 3) := by decide +kernel
theorem dX5_readHead_119 : decode cX5_readHead 119 = .ok (.iconst 0, 1) := by decide +kernel
theorem dX5_readHead_120 : decode cX5_readHead 120 = .ok (.ireturn, 1) := by decide +kernel
theorem dX5_readHead_121 : decode cX5_readHead 121 = .ok (.aload_n 0, 1) := by decide +kernel
theorem dX5_readHead_122 : decode cX5_readHead 122 = .ok (.getfield 28, 3) := by decide +kernel
theorem dX5_readHead_125 : decode cX5_readHead 125 = .ok (.iload_n 2, 1) := by decide +kernel
theorem dX5_readHead_126 : decode cX5_readHead 126 = .ok (.iconst 2, 1) := by decide +kernel
theorem dX5_readHead_127 : decode cX5_readHead 127 = .ok (.iadd, 1) := by decide +kernel
theorem dX5_readHead_128 : decode cX5_readHead 128 = .ok (.aload_n 0, 1) := by decide +kernel
theorem dX5_readHead_129 : decode cX5_readHead 129 = .ok (.iload_n 1, 1) := by decide +kernel
theorem dX5_readHead_130 : decode cX5_readHead 130 = .ok (.iconst 0, 1) := by decide +kernel
theorem dX5_readHead_131 : decode cX5_readHead 131 = .ok (.iconst 5, 1) := by decide +kernel
theorem dX5_readHead_132 : decode cX5_readHead 132 = .ok (.invokevirtual 96, 3) := by decide +kernel
theorem dX5_readHead_135 : decode cX5_readHead 135 = .ok (.iastore, 1) := by decide +kernel
theorem dX5_readHead_136 : decode cX5_readHead 136 = .ok (.aload_n 0, 1) := by decide +kernel
theorem dX5_readHead_137 : decode cX5_readHead 137 = .ok (.dup, 1) := by decide +kernel
theorem dX5_readHead_138 : decode cX5_readHead 138 = .ok (.getfield 83, 3) := by decide +kernel
theorem dX5_readHead_141 : decode cX5_readHead 141 = .ok (.iconst 1, 1) := by decide +kernel
theorem dX5_readHead_142 : decode cX5_readHead 142 = .ok (.iadd, 1) := by decide +kernel
theorem dX5_readHead_143 : decode cX5_readHead 143 = .ok (.putfield 83, 3) := by decide +kernel
theorem dX5_readHead_146 : decode cX5_readHead 146 = .ok (.aload_n 0, 1) := by decide +kernel
theorem dX5_readHead_147 : decode cX5_readHead 147 = .ok (.getfield 28, 3) := by decide +kernel
theorem dX5_readHead_150 : decode cX5_readHead 150 = .ok (.iload_n 2, 1) := by decide +kernel
theorem dX5_readHead_151 : decode cX5_readHead 151 = .ok (.iconst 2, 1) := by decide +kernel
theorem dX5_readHead_152 : decode cX5_readHead 152 = .ok (.iadd, 1) := by decide +kernel
theorem dX5_readHead_153 : decode cX5_readHead 153 = .ok (.iaload, 1) := by decide +kernel
theorem dX5_readHead_154 : decode cX5_readHead 154 = .ok (.bipush (-9), 2) := by decide +kernel
theorem dX5_readHead_156 : decode cX5_readHead 156 = .ok (.if_icmp .eq 7, 3) := by decide +kernel
theorem dX5_readHead_159 : decode cX5_readHead 159 = .ok (.iconst 1, 1) := by decide +kernel
theorem dX5_readHead_160 : decode cX5_readHead 160 = .ok (.goto 4, 3) := by decide +kernel
theorem dX5_readHead_163 : decode cX5_readHead 163 = .ok (.iconst 0, 1) := by decide +kernel
theorem dX5_readHead_164 : decode cX5_readHead 164 = .ok (.ireturn, 1) := by decide +kernel
set_option maxRecDepth 20000 in
theorem S_X5_readHead_0 {g : GG} {d : Nat} {F : Int32 → St → Prop} (a1 : Int32) (σ : St) (h : ((a1 ≤ (σ 23 9) → (vp_in (3 * (σ 23 10)) 15 ∧ ((¬ ((sU σ 30 ((3 * (σ 23 10)).toNatClampNeg) (-9)) 30 ((3 * (σ 23 10)).toNatClampNeg)) = (-9) → (ME g d M_X5_digit [vR 23, vI a1, vI 1, vI 9] (sU (sU σ 30 ((3 * (σ 23 10)).toNatClampNeg) (-9)) 23 9 ((σ 23 9) + 1)) (qI (fun r6 σ7 => (vp_in ((3 * (σ 23 10)) + 1) 15 ∧ ((¬ ((sU σ7 30 (((3 * (σ 23 10)) + 1).toNatClampNeg) r6) 30 (((3 * (σ 23 10)) + 1).toNatClampNeg)) = (-9) → (ME g d M_X5_digit [vR 23, vI a1, vI 0, vI 5] (sU σ7 30 (((3 * (σ 23 10)) + 1).toNatClampNeg) r6) (qI (fun r10 σ11 => (vp_in ((3 * (σ 23 10)) + 2) 15 ∧ ((((sU σ11 30 (((3 * (σ 23 10)) + 2).toNatClampNeg) r10) 30 (((3 * (σ 23 10)) + 2).toNatClampNeg)) = (-9) → F 0 (sU (sU σ11 30 (((3 * (σ 23 10)) + 2).toNatClampNeg) r10) 23 10 ((σ11 23 10) + 1))) ∧ (¬ ((sU σ11 30 (((3 * (σ 23 10)) + 2).toNatClampNeg) r10) 30 (((3 * (σ 23 10)) + 2).toNatClampNeg)) = (-9) → F 1 (sU (sU σ11 30 (((3 * (σ 23 10)) + 2).toNatClampNeg) r10) 23 10 ((σ11 23 10) + 1))))))))) ∧ (((sU σ7 30 (((3 * (σ 23 10)) + 1).toNatClampNeg) r6) 30 (((3 * (σ 23 10)) + 1).toNatClampNeg)) = (-9) → F 0 (sU σ7 30 (((3 * (σ 23 10)) + 1).toNatClampNeg) r6)))))))) ∧ (((sU σ 30 ((3 * (σ 23 10)).toNatClampNeg) (-9)) 30 ((3 * (σ 23 10)).toNatClampNeg)) = (-9) → F 0 (sU σ 30 ((3 * (σ 23 10)).toNatClampNeg) (-9)))))) ∧ (¬ a1 ≤ (σ 23 9) → (vp_in (σ 23 9) 240 ∧ ((¬ (σ 26 ((σ 23 9).toNatClampNeg)) = 104 → ((¬ (σ 26 ((σ 23 9).toNatClampNeg)) = 108 → ((¬ (σ 26 ((σ 23 9).toNatClampNeg)) = 115 → (vp_in (3 * (σ 23 10)) 15 ∧ ((¬ ((sU σ 30 ((3 * (σ 23 10)).toNatClampNeg) (-9)) 30 ((3 * (σ 23 10)).toNatClampNeg)) = (-9) → (ME g d M_X5_digit [vR 23, vI a1, vI 1, vI 9] (sU (sU σ 30 ((3 * (σ 23 10)).toNatClampNeg) (-9)) 23 9 ((σ 23 9) + 1)) (qI (fun r18 σ19 => (vp_in ((3 * (σ 23 10)) + 1) 15 ∧ ((¬ ((sU σ19 30 (((3 * (σ 23 10)) + 1).toNatClampNeg) r18) 30 (((3 * (σ 23 10)) + 1).toNatClampNeg)) = (-9) → (ME g d M_X5_digit [vR 23, vI a1, vI 0, vI 5] (sU σ19 30 (((3 * (σ 23 10)) + 1).toNatClampNeg) r18) (qI (fun r22 σ23 => (vp_in ((3 * (σ 23 10)) + 2) 15 ∧ ((((sU σ23 30 (((3 * (σ 23 10)) + 2).toNatClampNeg) r22) 30 (((3 * (σ 23 10)) + 2).toNatClampNeg)) = (-9) → F 0 (sU (sU σ23 30 (((3 * (σ 23 10)) + 2).toNatClampNeg) r22) 23 10 ((σ23 23 10) + 1))) ∧ (¬ ((sU σ23 30 (((3 * (σ 23 10)) + 2).toNatClampNeg) r22) 30 (((3 * (σ 23 10)) + 2).toNatClampNeg)) = (-9) → F 1 (sU (sU σ23 30 (((3 * (σ 23 10)) + 2).toNatClampNeg) r22) 23 10 ((σ23 23 10) + 1))))))))) ∧ (((sU σ19 30 (((3 * (σ 23 10)) + 1).toNatClampNeg) r18) 30 (((3 * (σ 23 10)) + 1).toNatClampNeg)) = (-9) → F 0 (sU σ19 30 (((3 * (σ 23 10)) + 1).toNatClampNeg) r18)))))))) ∧ (((sU σ 30 ((3 * (σ 23 10)).toNatClampNeg) (-9)) 30 ((3 * (σ 23 10)).toNatClampNeg)) = (-9) → F 0 (sU σ 30 ((3 * (σ 23 10)).toNatClampNeg) (-9)))))) ∧ ((σ 26 ((σ 23 9).toNatClampNeg)) = 115 → (vp_in (3 * (σ 23 10)) 15 ∧ ((¬ ((sU σ 30 ((3 * (σ 23 10)).toNatClampNeg) 2) 30 ((3 * (σ 23 10)).toNatClampNeg)) = (-9) → (ME g d M_X5_digit [vR 23, vI a1, vI 1, vI 9] (sU (sU σ 30 ((3 * (σ 23 10)).toNatClampNeg) 2) 23 9 ((σ 23 9) + 1)) (qI (fun r27 σ28 => (vp_in ((3 * (σ 23 10)) + 1) 15 ∧ ((¬ ((sU σ28 30 (((3 * (σ 23 10)) + 1).toNatClampNeg) r27) 30 (((3 * (σ 23 10)) + 1).toNatClampNeg)) = (-9) → (ME g d M_X5_digit [vR 23, vI a1, vI 0, vI 5] (sU σ28 30 (((3 * (σ 23 10)) + 1).toNatClampNeg) r27) (qI (fun r31 σ32 => (vp_in ((3 * (σ 23 10)) + 2) 15 ∧ ((((sU σ32 30 (((3 * (σ 23 10)) + 2).toNatClampNeg) r31) 30 (((3 * (σ 23 10)) + 2).toNatClampNeg)) = (-9) → F 0 (sU (sU σ32 30 (((3 * (σ 23 10)) + 2).toNatClampNeg) r31) 23 10 ((σ32 23 10) + 1))) ∧ (¬ ((sU σ32 30 (((3 * (σ 23 10)) + 2).toNatClampNeg) r31) 30 (((3 * (σ 23 10)) + 2).toNatClampNeg)) = (-9) → F 1 (sU (sU σ32 30 (((3 * (σ 23 10)) + 2).toNatClampNeg) r31) 23 10 ((σ32 23 10) + 1))))))))) ∧ (((sU σ28 30 (((3 * (σ 23 10)) + 1).toNatClampNeg) r27) 30 (((3 * (σ 23 10)) + 1).toNatClampNeg)) = (-9) → F 0 (sU σ28 30 (((3 * (σ 23 10)) + 1).toNatClampNeg) r27)))))))) ∧ (((sU σ 30 ((3 * (σ 23 10)).toNatClampNeg) 2) 30 ((3 * (σ 23 10)).toNatClampNeg)) = (-9) → F 0 (sU σ 30 ((3 * (σ 23 10)).toNatClampNeg) 2))))))) ∧ ((σ 26 ((σ 23 9).toNatClampNeg)) = 108 → (vp_in (3 * (σ 23 10)) 15 ∧ ((¬ ((sU σ 30 ((3 * (σ 23 10)).toNatClampNeg) 1) 30 ((3 * (σ 23 10)).toNatClampNeg)) = (-9) → (ME g d M_X5_digit [vR 23, vI a1, vI 1, vI 9] (sU (sU σ 30 ((3 * (σ 23 10)).toNatClampNeg) 1) 23 9 ((σ 23 9) + 1)) (qI (fun r36 σ37 => (vp_in ((3 * (σ 23 10)) + 1) 15 ∧ ((¬ ((sU σ37 30 (((3 * (σ 23 10)) + 1).toNatClampNeg) r36) 30 (((3 * (σ 23 10)) + 1).toNatClampNeg)) = (-9) → (ME g d M_X5_digit [vR 23, vI a1, vI 0, vI 5] (sU σ37 30 (((3 * (σ 23 10)) + 1).toNatClampNeg) r36) (qI (fun r40 σ41 => (vp_in ((3 * (σ 23 10)) + 2) 15 ∧ ((((sU σ41 30 (((3 * (σ 23 10)) + 2).toNatClampNeg) r40) 30 (((3 * (σ 23 10)) + 2).toNatClampNeg)) = (-9) → F 0 (sU (sU σ41 30 (((3 * (σ 23 10)) + 2).toNatClampNeg) r40) 23 10 ((σ41 23 10) + 1))) ∧ (¬ ((sU σ41 30 (((3 * (σ 23 10)) + 2).toNatClampNeg) r40) 30 (((3 * (σ 23 10)) + 2).toNatClampNeg)) = (-9) → F 1 (sU (sU σ41 30 (((3 * (σ 23 10)) + 2).toNatClampNeg) r40) 23 10 ((σ41 23 10) + 1))))))))) ∧ (((sU σ37 30 (((3 * (σ 23 10)) + 1).toNatClampNeg) r36) 30 (((3 * (σ 23 10)) + 1).toNatClampNeg)) = (-9) → F 0 (sU σ37 30 (((3 * (σ 23 10)) + 1).toNatClampNeg) r36)))))))) ∧ (((sU σ 30 ((3 * (σ 23 10)).toNatClampNeg) 1) 30 ((3 * (σ 23 10)).toNatClampNeg)) = (-9) → F 0 (sU σ 30 ((3 * (σ 23 10)).toNatClampNeg) 1))))))) ∧ ((σ 26 ((σ 23 9).toNatClampNeg)) = 104 → (vp_in (3 * (σ 23 10)) 15 ∧ ((¬ ((sU σ 30 ((3 * (σ 23 10)).toNatClampNeg) 0) 30 ((3 * (σ 23 10)).toNatClampNeg)) = (-9) → (ME g d M_X5_digit [vR 23, vI a1, vI 1, vI 9] (sU (sU σ 30 ((3 * (σ 23 10)).toNatClampNeg) 0) 23 9 ((σ 23 9) + 1)) (qI (fun r45 σ46 => (vp_in ((3 * (σ 23 10)) + 1) 15 ∧ ((¬ ((sU σ46 30 (((3 * (σ 23 10)) + 1).toNatClampNeg) r45) 30 (((3 * (σ 23 10)) + 1).toNatClampNeg)) = (-9) → (ME g d M_X5_digit [vR 23, vI a1, vI 0, vI 5] (sU σ46 30 (((3 * (σ 23 10)) + 1).toNatClampNeg) r45) (qI (fun r49 σ50 => (vp_in ((3 * (σ 23 10)) + 2) 15 ∧ ((((sU σ50 30 (((3 * (σ 23 10)) + 2).toNatClampNeg) r49) 30 (((3 * (σ 23 10)) + 2).toNatClampNeg)) = (-9) → F 0 (sU (sU σ50 30 (((3 * (σ 23 10)) + 2).toNatClampNeg) r49) 23 10 ((σ50 23 10) + 1))) ∧ (¬ ((sU σ50 30 (((3 * (σ 23 10)) + 2).toNatClampNeg) r49) 30 (((3 * (σ 23 10)) + 2).toNatClampNeg)) = (-9) → F 1 (sU (sU σ50 30 (((3 * (σ 23 10)) + 2).toNatClampNeg) r49) 23 10 ((σ50 23 10) + 1))))))))) ∧ (((sU σ46 30 (((3 * (σ 23 10)) + 1).toNatClampNeg) r45) 30 (((3 * (σ 23 10)) + 1).toNatClampNeg)) = (-9) → F 0 (sU σ46 30 (((3 * (σ 23 10)) + 1).toNatClampNeg) r45)))))))) ∧ (((sU σ 30 ((3 * (σ 23 10)).toNatClampNeg) 0) 30 ((3 * (σ 23 10)).toNatClampNeg)) = (-9) → F 0 (sU σ 30 ((3 * (σ 23 10)).toNatClampNeg) 0)))))))))) : VM g (d + 1) M_X5_readHead (qI F) 0 [(0, vR 23), (1, vI a1)] [] σ := by
  refine VE_iconst 3 dX5_readHead_0 (k := ?_)
  refine VE_aload_n 0 dX5_readHead_1 (k := ?_)
  refine VE_getI dX5_readHead_2 fl_X5_83 ?_
  refine VE_imul dX5_readHead_5 ?_
  refine VE_istore_n (ls' := [(2, vI (3 * (σ 23 10))), (0, vR 23), (1, vI a1)]) dX5_readHead_6 ?_
  refine VE_aload_n 1 dX5_readHead_7 (k := ?_)
  refine VE_getI dX5_readHead_8 fl_X5_62 ?_
  refine VE_iload_n 2 dX5_readHead_11 (k := ?_)
  refine VE_icmp_ge 27 dX5_readHead_12 (fun c1 => ?_) (fun c1 => ?_)
  · refine VE_iconst 0 dX5_readHead_27 (k := ?_)
    refine VE_istore_n (ls' := [(3, vI 0), (2, vI (3 * (σ 23 10))), (0, vR 23), (1, vI a1)]) dX5_readHead_28 ?_
    refine VE_aload_n 2 dX5_readHead_29 (k := ?_)
    refine VE_getR 30 dX5_readHead_30 fl_X5_28 ?_
    refine VE_iload_n 1 dX5_readHead_33 (k := ?_)
    refine VE_iload_n 0 dX5_readHead_34 (k := ?_)
    refine VE_bipush 104 dX5_readHead_35 (k := ?_)
    refine VE_icmp_ne 44 dX5_readHead_37 (fun _ => ?_) (fun c2 => absurd c2 (by decide))
    refine VE_iload_n 0 dX5_readHead_44 (k := ?_)
    refine VE_bipush 108 dX5_readHead_45 (k := ?_)
    refine VE_icmp_ne 54 dX5_readHead_47 (fun _ => ?_) (fun c3 => absurd c3 (by decide))
    refine VE_iload_n 0 dX5_readHead_54 (k := ?_)
    refine VE_bipush 115 dX5_readHead_55 (k := ?_)
    refine VE_icmp_ne 64 dX5_readHead_57 (fun _ => ?_) (fun c4 => absurd c4 (by decide))
    refine VE_bipush (-9) dX5_readHead_64 (k := ?_)
    refine VE_iast dX5_readHead_66 (h.1 c1).1 ?_
    refine VE_aload_n 2 dX5_readHead_67 (k := ?_)
    refine VE_getR 30 dX5_readHead_68 fl_X5_28 ?_
    refine VE_iload_n 1 dX5_readHead_71 (k := ?_)
    refine VE_iald dX5_readHead_72 (h.1 c1).1 ?_
    refine VE_bipush (-9) dX5_readHead_73 (k := ?_)
    refine VE_icmp_ne 80 dX5_readHead_75 (fun c5 => ?_) (fun c5 => ?_)
    · refine VE_aload_n 2 dX5_readHead_80 (k := ?_)
      refine VE_dup dX5_readHead_81 (k := ?_)
      refine VE_getI dX5_readHead_82 fl_X5_62 ?_
      refine VE_iconst 1 dX5_readHead_85 (k := ?_)
      refine VE_iadd dX5_readHead_86 ?_
      refine VE_put dX5_readHead_87 fl_X5_62 ?_
      refine VE_aload_n 2 dX5_readHead_90 (k := ?_)
      refine VE_getR 30 dX5_readHead_91 fl_X5_28 ?_
      refine VE_iload_n 1 dX5_readHead_94 (k := ?_)
      refine VE_iconst 1 dX5_readHead_95 (k := ?_)
      refine VE_iadd dX5_readHead_96 ?_
      refine VE_aload_n 2 dX5_readHead_97 (k := ?_)
      refine VE_iload_n 3 dX5_readHead_98 (k := ?_)
      refine VE_iconst 1 dX5_readHead_99 (k := ?_)
      refine VE_bipush 9 dX5_readHead_100 (k := ?_)
      refine VE_cVi [vI a1, vI 1, vI 9] dX5_readHead_102 ml_X5_96 ((h.1 c1).2.1 c5) (fun r6 σ7 h8 => ?_) (rok_D d)
      refine VE_iast dX5_readHead_105 h8.1 ?_
      refine VE_aload_n 2 dX5_readHead_106 (k := ?_)
      refine VE_getR 30 dX5_readHead_107 fl_X5_28 ?_
      refine VE_iload_n 1 dX5_readHead_110 (k := ?_)
      refine VE_iconst 1 dX5_readHead_111 (k := ?_)
      refine VE_iadd dX5_readHead_112 ?_
      refine VE_iald dX5_readHead_113 h8.1 ?_
      refine VE_bipush (-9) dX5_readHead_114 (k := ?_)
      refine VE_icmp_ne 121 dX5_readHead_116 (fun c9 => ?_) (fun c9 => ?_)
      · refine VE_aload_n 2 dX5_readHead_121 (k := ?_)
        refine VE_getR 30 dX5_readHead_122 fl_X5_28 ?_
        refine VE_iload_n 1 dX5_readHead_125 (k := ?_)
        refine VE_iconst 2 dX5_readHead_126 (k := ?_)
        refine VE_iadd dX5_readHead_127 ?_
        refine VE_aload_n 2 dX5_readHead_128 (k := ?_)
        refine VE_iload_n 3 dX5_readHead_129 (k := ?_)
        refine VE_iconst 0 dX5_readHead_130 (k := ?_)
        refine VE_iconst 5 dX5_readHead_131 (k := ?_)
        refine VE_cVi [vI a1, vI 0, vI 5] dX5_readHead_132 ml_X5_96 (h8.2.1 c9) (fun r10 σ11 h12 => ?_) (rok_D d)
        refine VE_iast dX5_readHead_135 h12.1 ?_
        refine VE_aload_n 2 dX5_readHead_136 (k := ?_)
        refine VE_dup dX5_readHead_137 (k := ?_)
        refine VE_getI dX5_readHead_138 fl_X5_83 ?_
        refine VE_iconst 1 dX5_readHead_141 (k := ?_)
        refine VE_iadd dX5_readHead_142 ?_
        refine VE_put dX5_readHead_143 fl_X5_83 ?_
        refine VE_aload_n 2 dX5_readHead_146 (k := ?_)
        refine VE_getR 30 dX5_readHead_147 fl_X5_28 ?_
        refine VE_iload_n 1 dX5_readHead_150 (k := ?_)
        refine VE_iconst 2 dX5_readHead_151 (k := ?_)
        refine VE_iadd dX5_readHead_152 ?_
        refine VE_iald dX5_readHead_153 h12.1 ?_
        refine VE_bipush (-9) dX5_readHead_154 (k := ?_)
        refine VE_icmp_eq 163 dX5_readHead_156 (fun c13 => ?_) (fun c13 => ?_)
        · refine VE_iconst 0 dX5_readHead_163 (k := ?_)
          exact VM_zret dX5_readHead_164 (h12.2.1 c13) (by decide)
        · refine VE_iconst 1 dX5_readHead_159 (k := ?_)
          refine VE_goto 164 dX5_readHead_160 ?_
          exact VM_zret dX5_readHead_164 (h12.2.2 c13) (by decide)
      · refine VE_iconst 0 dX5_readHead_119 (k := ?_)
        exact VM_zret dX5_readHead_120 (h8.2.2 c9) (by decide)
    · refine VE_iconst 0 dX5_readHead_78 (k := ?_)
      exact VM_zret dX5_readHead_79 ((h.1 c1).2.2 c5) (by decide)
  · refine VE_aload_n 1 dX5_readHead_15 (k := ?_)
    refine VE_getR 26 dX5_readHead_16 fl_X5_16 ?_
    refine VE_aload_n 1 dX5_readHead_19 (k := ?_)
    refine VE_getI dX5_readHead_20 fl_X5_62 ?_
    refine VE_iald dX5_readHead_23 (h.2 c1).1 ?_
    refine VE_goto 28 dX5_readHead_24 ?_
    refine VE_istore_n (ls' := [(3, vI (σ 26 ((σ 23 9).toNatClampNeg))), (2, vI (3 * (σ 23 10))), (0, vR 23), (1, vI a1)]) dX5_readHead_28 ?_
    refine VE_aload_n 2 dX5_readHead_29 (k := ?_)
    refine VE_getR 30 dX5_readHead_30 fl_X5_28 ?_
    refine VE_iload_n 1 dX5_readHead_33 (k := ?_)
    refine VE_iload_n 0 dX5_readHead_34 (k := ?_)
    refine VE_bipush 104 dX5_readHead_35 (k := ?_)
    refine VE_icmp_ne 44 dX5_readHead_37 (fun c14 => ?_) (fun c14 => ?_)
    · refine VE_iload_n 0 dX5_readHead_44 (k := ?_)
      refine VE_bipush 108 dX5_readHead_45 (k := ?_)
      refine VE_icmp_ne 54 dX5_readHead_47 (fun c15 => ?_) (fun c15 => ?_)
      · refine VE_iload_n 0 dX5_readHead_54 (k := ?_)
        refine VE_bipush 115 dX5_readHead_55 (k := ?_)
        refine VE_icmp_ne 64 dX5_readHead_57 (fun c16 => ?_) (fun c16 => ?_)
        · refine VE_bipush (-9) dX5_readHead_64 (k := ?_)
          refine VE_iast dX5_readHead_66 ((((h.2 c1).2.1 c14).1 c15).1 c16).1 ?_
          refine VE_aload_n 2 dX5_readHead_67 (k := ?_)
          refine VE_getR 30 dX5_readHead_68 fl_X5_28 ?_
          refine VE_iload_n 1 dX5_readHead_71 (k := ?_)
          refine VE_iald dX5_readHead_72 ((((h.2 c1).2.1 c14).1 c15).1 c16).1 ?_
          refine VE_bipush (-9) dX5_readHead_73 (k := ?_)
          refine VE_icmp_ne 80 dX5_readHead_75 (fun c17 => ?_) (fun c17 => ?_)
          · refine VE_aload_n 2 dX5_readHead_80 (k := ?_)
            refine VE_dup dX5_readHead_81 (k := ?_)
            refine VE_getI dX5_readHead_82 fl_X5_62 ?_
            refine VE_iconst 1 dX5_readHead_85 (k := ?_)
            refine VE_iadd dX5_readHead_86 ?_
            refine VE_put dX5_readHead_87 fl_X5_62 ?_
            refine VE_aload_n 2 dX5_readHead_90 (k := ?_)
            refine VE_getR 30 dX5_readHead_91 fl_X5_28 ?_
            refine VE_iload_n 1 dX5_readHead_94 (k := ?_)
            refine VE_iconst 1 dX5_readHead_95 (k := ?_)
            refine VE_iadd dX5_readHead_96 ?_
            refine VE_aload_n 2 dX5_readHead_97 (k := ?_)
            refine VE_iload_n 3 dX5_readHead_98 (k := ?_)
            refine VE_iconst 1 dX5_readHead_99 (k := ?_)
            refine VE_bipush 9 dX5_readHead_100 (k := ?_)
            refine VE_cVi [vI a1, vI 1, vI 9] dX5_readHead_102 ml_X5_96 (((((h.2 c1).2.1 c14).1 c15).1 c16).2.1 c17) (fun r18 σ19 h20 => ?_) (rok_D d)
            refine VE_iast dX5_readHead_105 h20.1 ?_
            refine VE_aload_n 2 dX5_readHead_106 (k := ?_)
            refine VE_getR 30 dX5_readHead_107 fl_X5_28 ?_
            refine VE_iload_n 1 dX5_readHead_110 (k := ?_)
            refine VE_iconst 1 dX5_readHead_111 (k := ?_)
            refine VE_iadd dX5_readHead_112 ?_
            refine VE_iald dX5_readHead_113 h20.1 ?_
            refine VE_bipush (-9) dX5_readHead_114 (k := ?_)
            refine VE_icmp_ne 121 dX5_readHead_116 (fun c21 => ?_) (fun c21 => ?_)
            · refine VE_aload_n 2 dX5_readHead_121 (k := ?_)
              refine VE_getR 30 dX5_readHead_122 fl_X5_28 ?_
              refine VE_iload_n 1 dX5_readHead_125 (k := ?_)
              refine VE_iconst 2 dX5_readHead_126 (k := ?_)
              refine VE_iadd dX5_readHead_127 ?_
              refine VE_aload_n 2 dX5_readHead_128 (k := ?_)
              refine VE_iload_n 3 dX5_readHead_129 (k := ?_)
              refine VE_iconst 0 dX5_readHead_130 (k := ?_)
              refine VE_iconst 5 dX5_readHead_131 (k := ?_)
              refine VE_cVi [vI a1, vI 0, vI 5] dX5_readHead_132 ml_X5_96 (h20.2.1 c21) (fun r22 σ23 h24 => ?_) (rok_D d)
              refine VE_iast dX5_readHead_135 h24.1 ?_
              refine VE_aload_n 2 dX5_readHead_136 (k := ?_)
              refine VE_dup dX5_readHead_137 (k := ?_)
              refine VE_getI dX5_readHead_138 fl_X5_83 ?_
              refine VE_iconst 1 dX5_readHead_141 (k := ?_)
              refine VE_iadd dX5_readHead_142 ?_
              refine VE_put dX5_readHead_143 fl_X5_83 ?_
              refine VE_aload_n 2 dX5_readHead_146 (k := ?_)
              refine VE_getR 30 dX5_readHead_147 fl_X5_28 ?_
              refine VE_iload_n 1 dX5_readHead_150 (k := ?_)
              refine VE_iconst 2 dX5_readHead_151 (k := ?_)
              refine VE_iadd dX5_readHead_152 ?_
              refine VE_iald dX5_readHead_153 h24.1 ?_
              refine VE_bipush (-9) dX5_readHead_154 (k := ?_)
              refine VE_icmp_eq 163 dX5_readHead_156 (fun c25 => ?_) (fun c25 => ?_)
              · refine VE_iconst 0 dX5_readHead_163 (k := ?_)
                exact VM_zret dX5_readHead_164 (h24.2.1 c25) (by decide)
              · refine VE_iconst 1 dX5_readHead_159 (k := ?_)
                refine VE_goto 164 dX5_readHead_160 ?_
                exact VM_zret dX5_readHead_164 (h24.2.2 c25) (by decide)
            · refine VE_iconst 0 dX5_readHead_119 (k := ?_)
              exact VM_zret dX5_readHead_120 (h20.2.2 c21) (by decide)
          · refine VE_iconst 0 dX5_readHead_78 (k := ?_)
            exact VM_zret dX5_readHead_79 (((((h.2 c1).2.1 c14).1 c15).1 c16).2.2 c17) (by decide)
        · refine VE_iconst 2 dX5_readHead_60 (k := ?_)
          refine VE_goto 66 dX5_readHead_61 ?_
          refine VE_iast dX5_readHead_66 ((((h.2 c1).2.1 c14).1 c15).2 c16).1 ?_
          refine VE_aload_n 2 dX5_readHead_67 (k := ?_)
          refine VE_getR 30 dX5_readHead_68 fl_X5_28 ?_
          refine VE_iload_n 1 dX5_readHead_71 (k := ?_)
          refine VE_iald dX5_readHead_72 ((((h.2 c1).2.1 c14).1 c15).2 c16).1 ?_
          refine VE_bipush (-9) dX5_readHead_73 (k := ?_)
          refine VE_icmp_ne 80 dX5_readHead_75 (fun c26 => ?_) (fun c26 => ?_)
          · refine VE_aload_n 2 dX5_readHead_80 (k := ?_)
            refine VE_dup dX5_readHead_81 (k := ?_)
            refine VE_getI dX5_readHead_82 fl_X5_62 ?_
            refine VE_iconst 1 dX5_readHead_85 (k := ?_)
            refine VE_iadd dX5_readHead_86 ?_
            refine VE_put dX5_readHead_87 fl_X5_62 ?_
            refine VE_aload_n 2 dX5_readHead_90 (k := ?_)
            refine VE_getR 30 dX5_readHead_91 fl_X5_28 ?_
            refine VE_iload_n 1 dX5_readHead_94 (k := ?_)
            refine VE_iconst 1 dX5_readHead_95 (k := ?_)
            refine VE_iadd dX5_readHead_96 ?_
            refine VE_aload_n 2 dX5_readHead_97 (k := ?_)
            refine VE_iload_n 3 dX5_readHead_98 (k := ?_)
            refine VE_iconst 1 dX5_readHead_99 (k := ?_)
            refine VE_bipush 9 dX5_readHead_100 (k := ?_)
            refine VE_cVi [vI a1, vI 1, vI 9] dX5_readHead_102 ml_X5_96 (((((h.2 c1).2.1 c14).1 c15).2 c16).2.1 c26) (fun r27 σ28 h29 => ?_) (rok_D d)
            refine VE_iast dX5_readHead_105 h29.1 ?_
            refine VE_aload_n 2 dX5_readHead_106 (k := ?_)
            refine VE_getR 30 dX5_readHead_107 fl_X5_28 ?_
            refine VE_iload_n 1 dX5_readHead_110 (k := ?_)
            refine VE_iconst 1 dX5_readHead_111 (k := ?_)
            refine VE_iadd dX5_readHead_112 ?_
            refine VE_iald dX5_readHead_113 h29.1 ?_
            refine VE_bipush (-9) dX5_readHead_114 (k := ?_)
            refine VE_icmp_ne 121 dX5_readHead_116 (fun c30 => ?_) (fun c30 => ?_)
            · refine VE_aload_n 2 dX5_readHead_121 (k := ?_)
              refine VE_getR 30 dX5_readHead_122 fl_X5_28 ?_
              refine VE_iload_n 1 dX5_readHead_125 (k := ?_)
              refine VE_iconst 2 dX5_readHead_126 (k := ?_)
              refine VE_iadd dX5_readHead_127 ?_
              refine VE_aload_n 2 dX5_readHead_128 (k := ?_)
              refine VE_iload_n 3 dX5_readHead_129 (k := ?_)
              refine VE_iconst 0 dX5_readHead_130 (k := ?_)
              refine VE_iconst 5 dX5_readHead_131 (k := ?_)
              refine VE_cVi [vI a1, vI 0, vI 5] dX5_readHead_132 ml_X5_96 (h29.2.1 c30) (fun r31 σ32 h33 => ?_) (rok_D d)
              refine VE_iast dX5_readHead_135 h33.1 ?_
              refine VE_aload_n 2 dX5_readHead_136 (k := ?_)
              refine VE_dup dX5_readHead_137 (k := ?_)
              refine VE_getI dX5_readHead_138 fl_X5_83 ?_
              refine VE_iconst 1 dX5_readHead_141 (k := ?_)
              refine VE_iadd dX5_readHead_142 ?_
              refine VE_put dX5_readHead_143 fl_X5_83 ?_
              refine VE_aload_n 2 dX5_readHead_146 (k := ?_)
              refine VE_getR 30 dX5_readHead_147 fl_X5_28 ?_
              refine VE_iload_n 1 dX5_readHead_150 (k := ?_)
              refine VE_iconst 2 dX5_readHead_151 (k := ?_)
              refine VE_iadd dX5_readHead_152 ?_
              refine VE_iald dX5_readHead_153 h33.1 ?_
              refine VE_bipush (-9) dX5_readHead_154 (k := ?_)
              refine VE_icmp_eq 163 dX5_readHead_156 (fun c34 => ?_) (fun c34 => ?_)
              · refine VE_iconst 0 dX5_readHead_163 (k := ?_)
                exact VM_zret dX5_readHead_164 (h33.2.1 c34) (by decide)
              · refine VE_iconst 1 dX5_readHead_159 (k := ?_)
                refine VE_goto 164 dX5_readHead_160 ?_
                exact VM_zret dX5_readHead_164 (h33.2.2 c34) (by decide)
            · refine VE_iconst 0 dX5_readHead_119 (k := ?_)
              exact VM_zret dX5_readHead_120 (h29.2.2 c30) (by decide)
          · refine VE_iconst 0 dX5_readHead_78 (k := ?_)
            exact VM_zret dX5_readHead_79 (((((h.2 c1).2.1 c14).1 c15).2 c16).2.2 c26) (by decide)
      · refine VE_iconst 1 dX5_readHead_50 (k := ?_)
        refine VE_goto 66 dX5_readHead_51 ?_
        refine VE_iast dX5_readHead_66 (((h.2 c1).2.1 c14).2 c15).1 ?_
        refine VE_aload_n 2 dX5_readHead_67 (k := ?_)
        refine VE_getR 30 dX5_readHead_68 fl_X5_28 ?_
        refine VE_iload_n 1 dX5_readHead_71 (k := ?_)
        refine VE_iald dX5_readHead_72 (((h.2 c1).2.1 c14).2 c15).1 ?_
        refine VE_bipush (-9) dX5_readHead_73 (k := ?_)
        refine VE_icmp_ne 80 dX5_readHead_75 (fun c35 => ?_) (fun c35 => ?_)
        · refine VE_aload_n 2 dX5_readHead_80 (k := ?_)
          refine VE_dup dX5_readHead_81 (k := ?_)
          refine VE_getI dX5_readHead_82 fl_X5_62 ?_
          refine VE_iconst 1 dX5_readHead_85 (k := ?_)
          refine VE_iadd dX5_readHead_86 ?_
          refine VE_put dX5_readHead_87 fl_X5_62 ?_
          refine VE_aload_n 2 dX5_readHead_90 (k := ?_)
          refine VE_getR 30 dX5_readHead_91 fl_X5_28 ?_
          refine VE_iload_n 1 dX5_readHead_94 (k := ?_)
          refine VE_iconst 1 dX5_readHead_95 (k := ?_)
          refine VE_iadd dX5_readHead_96 ?_
          refine VE_aload_n 2 dX5_readHead_97 (k := ?_)
          refine VE_iload_n 3 dX5_readHead_98 (k := ?_)
          refine VE_iconst 1 dX5_readHead_99 (k := ?_)
          refine VE_bipush 9 dX5_readHead_100 (k := ?_)
          refine VE_cVi [vI a1, vI 1, vI 9] dX5_readHead_102 ml_X5_96 ((((h.2 c1).2.1 c14).2 c15).2.1 c35) (fun r36 σ37 h38 => ?_) (rok_D d)
          refine VE_iast dX5_readHead_105 h38.1 ?_
          refine VE_aload_n 2 dX5_readHead_106 (k := ?_)
          refine VE_getR 30 dX5_readHead_107 fl_X5_28 ?_
          refine VE_iload_n 1 dX5_readHead_110 (k := ?_)
          refine VE_iconst 1 dX5_readHead_111 (k := ?_)
          refine VE_iadd dX5_readHead_112 ?_
          refine VE_iald dX5_readHead_113 h38.1 ?_
          refine VE_bipush (-9) dX5_readHead_114 (k := ?_)
          refine VE_icmp_ne 121 dX5_readHead_116 (fun c39 => ?_) (fun c39 => ?_)
          · refine VE_aload_n 2 dX5_readHead_121 (k := ?_)
            refine VE_getR 30 dX5_readHead_122 fl_X5_28 ?_
            refine VE_iload_n 1 dX5_readHead_125 (k := ?_)
            refine VE_iconst 2 dX5_readHead_126 (k := ?_)
            refine VE_iadd dX5_readHead_127 ?_
            refine VE_aload_n 2 dX5_readHead_128 (k := ?_)
            refine VE_iload_n 3 dX5_readHead_129 (k := ?_)
            refine VE_iconst 0 dX5_readHead_130 (k := ?_)
            refine VE_iconst 5 dX5_readHead_131 (k := ?_)
            refine VE_cVi [vI a1, vI 0, vI 5] dX5_readHead_132 ml_X5_96 (h38.2.1 c39) (fun r40 σ41 h42 => ?_) (rok_D d)
            refine VE_iast dX5_readHead_135 h42.1 ?_
            refine VE_aload_n 2 dX5_readHead_136 (k := ?_)
            refine VE_dup dX5_readHead_137 (k := ?_)
            refine VE_getI dX5_readHead_138 fl_X5_83 ?_
            refine VE_iconst 1 dX5_readHead_141 (k := ?_)
            refine VE_iadd dX5_readHead_142 ?_
            refine VE_put dX5_readHead_143 fl_X5_83 ?_
            refine VE_aload_n 2 dX5_readHead_146 (k := ?_)
            refine VE_getR 30 dX5_readHead_147 fl_X5_28 ?_
            refine VE_iload_n 1 dX5_readHead_150 (k := ?_)
            refine VE_iconst 2 dX5_readHead_151 (k := ?_)
            refine VE_iadd dX5_readHead_152 ?_
            refine VE_iald dX5_readHead_153 h42.1 ?_
            refine VE_bipush (-9) dX5_readHead_154 (k := ?_)
            refine VE_icmp_eq 163 dX5_readHead_156 (fun c43 => ?_) (fun c43 => ?_)
            · refine VE_iconst 0 dX5_readHead_163 (k := ?_)
              exact VM_zret dX5_readHead_164 (h42.2.1 c43) (by decide)
            · refine VE_iconst 1 dX5_readHead_159 (k := ?_)
              refine VE_goto 164 dX5_readHead_160 ?_
              exact VM_zret dX5_readHead_164 (h42.2.2 c43) (by decide)
          · refine VE_iconst 0 dX5_readHead_119 (k := ?_)
            exact VM_zret dX5_readHead_120 (h38.2.2 c39) (by decide)
        · refine VE_iconst 0 dX5_readHead_78 (k := ?_)
          exact VM_zret dX5_readHead_79 ((((h.2 c1).2.1 c14).2 c15).2.2 c35) (by decide)
    · refine VE_iconst 0 dX5_readHead_40 (k := ?_)
      refine VE_goto 66 dX5_readHead_41 ?_
      refine VE_iast dX5_readHead_66 ((h.2 c1).2.2 c14).1 ?_
      refine VE_aload_n 2 dX5_readHead_67 (k := ?_)
      refine VE_getR 30 dX5_readHead_68 fl_X5_28 ?_
      refine VE_iload_n 1 dX5_readHead_71 (k := ?_)
      refine VE_iald dX5_readHead_72 ((h.2 c1).2.2 c14).1 ?_
      refine VE_bipush (-9) dX5_readHead_73 (k := ?_)
      refine VE_icmp_ne 80 dX5_readHead_75 (fun c44 => ?_) (fun c44 => ?_)
      · refine VE_aload_n 2 dX5_readHead_80 (k := ?_)
        refine VE_dup dX5_readHead_81 (k := ?_)
        refine VE_getI dX5_readHead_82 fl_X5_62 ?_
        refine VE_iconst 1 dX5_readHead_85 (k := ?_)
        refine VE_iadd dX5_readHead_86 ?_
        refine VE_put dX5_readHead_87 fl_X5_62 ?_
        refine VE_aload_n 2 dX5_readHead_90 (k := ?_)
        refine VE_getR 30 dX5_readHead_91 fl_X5_28 ?_
        refine VE_iload_n 1 dX5_readHead_94 (k := ?_)
        refine VE_iconst 1 dX5_readHead_95 (k := ?_)
        refine VE_iadd dX5_readHead_96 ?_
        refine VE_aload_n 2 dX5_readHead_97 (k := ?_)
        refine VE_iload_n 3 dX5_readHead_98 (k := ?_)
        refine VE_iconst 1 dX5_readHead_99 (k := ?_)
        refine VE_bipush 9 dX5_readHead_100 (k := ?_)
        refine VE_cVi [vI a1, vI 1, vI 9] dX5_readHead_102 ml_X5_96 (((h.2 c1).2.2 c14).2.1 c44) (fun r45 σ46 h47 => ?_) (rok_D d)
        refine VE_iast dX5_readHead_105 h47.1 ?_
        refine VE_aload_n 2 dX5_readHead_106 (k := ?_)
        refine VE_getR 30 dX5_readHead_107 fl_X5_28 ?_
        refine VE_iload_n 1 dX5_readHead_110 (k := ?_)
        refine VE_iconst 1 dX5_readHead_111 (k := ?_)
        refine VE_iadd dX5_readHead_112 ?_
        refine VE_iald dX5_readHead_113 h47.1 ?_
        refine VE_bipush (-9) dX5_readHead_114 (k := ?_)
        refine VE_icmp_ne 121 dX5_readHead_116 (fun c48 => ?_) (fun c48 => ?_)
        · refine VE_aload_n 2 dX5_readHead_121 (k := ?_)
          refine VE_getR 30 dX5_readHead_122 fl_X5_28 ?_
          refine VE_iload_n 1 dX5_readHead_125 (k := ?_)
          refine VE_iconst 2 dX5_readHead_126 (k := ?_)
          refine VE_iadd dX5_readHead_127 ?_
          refine VE_aload_n 2 dX5_readHead_128 (k := ?_)
          refine VE_iload_n 3 dX5_readHead_129 (k := ?_)
          refine VE_iconst 0 dX5_readHead_130 (k := ?_)
          refine VE_iconst 5 dX5_readHead_131 (k := ?_)
          refine VE_cVi [vI a1, vI 0, vI 5] dX5_readHead_132 ml_X5_96 (h47.2.1 c48) (fun r49 σ50 h51 => ?_) (rok_D d)
          refine VE_iast dX5_readHead_135 h51.1 ?_
          refine VE_aload_n 2 dX5_readHead_136 (k := ?_)
          refine VE_dup dX5_readHead_137 (k := ?_)
          refine VE_getI dX5_readHead_138 fl_X5_83 ?_
          refine VE_iconst 1 dX5_readHead_141 (k := ?_)
          refine VE_iadd dX5_readHead_142 ?_
          refine VE_put dX5_readHead_143 fl_X5_83 ?_
          refine VE_aload_n 2 dX5_readHead_146 (k := ?_)
          refine VE_getR 30 dX5_readHead_147 fl_X5_28 ?_
          refine VE_iload_n 1 dX5_readHead_150 (k := ?_)
          refine VE_iconst 2 dX5_readHead_151 (k := ?_)
          refine VE_iadd dX5_readHead_152 ?_
          refine VE_iald dX5_readHead_153 h51.1 ?_
          refine VE_bipush (-9) dX5_readHead_154 (k := ?_)
          refine VE_icmp_eq 163 dX5_readHead_156 (fun c52 => ?_) (fun c52 => ?_)
          · refine VE_iconst 0 dX5_readHead_163 (k := ?_)
            exact VM_zret dX5_readHead_164 (h51.2.1 c52) (by decide)
          · refine VE_iconst 1 dX5_readHead_159 (k := ?_)
            refine VE_goto 164 dX5_readHead_160 ?_
            exact VM_zret dX5_readHead_164 (h51.2.2 c52) (by decide)
        · refine VE_iconst 0 dX5_readHead_119 (k := ?_)
          exact VM_zret dX5_readHead_120 (h47.2.2 c48) (by decide)
      · refine VE_iconst 0 dX5_readHead_78 (k := ?_)
        exact VM_zret dX5_readHead_79 (((h.2 c1).2.2 c14).2.2 c44) (by decide)
theorem dX5_lasts_0 : decode cX5_lasts 0 = .ok (.aload_n 0, 1) := by decide +kernel
theorem dX5_lasts_1 : decode cX5_lasts 1 = .ok (.getfield 22, 3) := by decide +kernel
theorem dX5_lasts_4 : decode cX5_lasts 4 = .ok (.iload_n 1, 1) := by decide +kernel
theorem dX5_lasts_5 : decode cX5_lasts 5 = .ok (.iaload, 1) := by decide +kernel
theorem dX5_lasts_6 : decode cX5_lasts 6 = .ok (.iconst 1, 1) := by decide +kernel
theorem dX5_lasts_7 : decode cX5_lasts 7 = .ok (.iadd, 1) := by decide +kernel
theorem dX5_lasts_8 : decode cX5_lasts 8 = .ok (.istore_n 2, 1) := by decide +kernel
theorem dX5_lasts_9 : decode cX5_lasts 9 = .ok (.aload_n 0, 1) := by decide +kernel
theorem dX5_lasts_10 : decode cX5_lasts 10 = .ok (.getfield 19, 3) := by decide +kernel
theorem dX5_lasts_13 : decode cX5_lasts 13 = .ok (.iload_n 1, 1) := by decide +kernel
theorem dX5_lasts_14 : decode cX5_lasts 14 = .ok (.iaload, 1) := by decide +kernel
theorem dX5_lasts_15 : decode cX5_lasts 15 = .ok (.ifCond .ne 12, 3) := by decide +kernel
theorem dX5_lasts_18 : decode cX5_lasts 18 = .ok (.aload_n 0, 1) := by decide +kernel
theorem dX5_lasts_19 : decode cX5_lasts 19 = .ok (.getfield 22, 3) := by decide +kernel
theorem dX5_lasts_22 : decode cX5_lasts 22 = .ok (.iload_n 1, 1) := by decide +kernel
theorem dX5_lasts_23 : decode cX5_lasts 23 = .ok (.iaload, 1) := by decide +kernel
theorem dX5_lasts_24 : decode cX5_lasts 24 = .ok (.goto 20, 3) := by decide +kernel
theorem dX5_lasts_27 : decode cX5_lasts 27 = .ok (.aload_n 0, 1) := by decide +kernel
theorem dX5_lasts_28 : decode cX5_lasts 28 = .ok (.getfield 19, 3) := by decide +kernel
theorem dX5_lasts_31 : decode cX5_lasts 31 = .ok (.iload_n 1, 1) := by decide +kernel
theorem dX5_lasts_32 : decode cX5_lasts 32 = .ok (.iaload, 1) := by decide +kernel
theorem dX5_lasts_33 : decode cX5_lasts 33 = .ok (.iconst 1, 1) := by decide +kernel
theorem dX5_lasts_34 : decode cX5_lasts 34 = .ok (.if_icmp .ne 7, 3) := by decide +kernel
theorem dX5_lasts_37 : decode cX5_lasts 37 = .ok (.iload_n 2, 1) := by decide +kernel
theorem dX5_lasts_38 : decode cX5_lasts 38 = .ok (.goto 6, 3) := by decide +kernel
theorem dX5_lasts_41 : decode cX5_lasts 41 = .ok (.iconst 2, 1) := by decide +kernel
theorem dX5_lasts_42 : decode cX5_lasts 42 = .ok (.iload_n 2, 1) := by decide +kernel
theorem dX5_lasts_43 : decode cX5_lasts 43 = .ok (.imul, 1) := by decide +kernel
theorem dX5_lasts_44 : decode cX5_lasts 44 = .ok (.ireturn, 1) := by decide +kernel
set_option maxRecDepth 20000 in
theorem S_X5_lasts_0 {g : GG} {d : Nat} {F : Int32 → St → Prop} (a1 : Int32) (σ : St) (h : (vp_in a1 5 ∧ ((¬ (σ 27 a1.toNatClampNeg) = 0 → ((¬ (σ 27 a1.toNatClampNeg) = 1 → F (2 * ((σ 28 a1.toNatClampNeg) + 1)) σ) ∧ ((σ 27 a1.toNatClampNeg) = 1 → F ((σ 28 a1.toNatClampNeg) + 1) σ))) ∧ ((σ 27 a1.toNatClampNeg) = 0 → F (σ 28 a1.toNatClampNeg) σ)))) : VM g d M_X5_lasts (qI F) 0 [(0, vR 23), (1, vI a1)] [] σ := by
  refine VE_aload_n 0 dX5_lasts_0 (k := ?_)
  refine VE_getR 28 dX5_lasts_1 fl_X5_22 ?_
  refine VE_iload_n 1 dX5_lasts_4 (k := ?_)
  refine VE_iald dX5_lasts_5 h.1 ?_
  refine VE_iconst 1 dX5_lasts_6 (k := ?_)
  refine VE_iadd dX5_lasts_7 ?_
  refine VE_istore_n (ls' := [(2, vI ((σ 28 a1.toNatClampNeg) + 1)), (0, vR 23), (1, vI a1)]) dX5_lasts_8 ?_
  refine VE_aload_n 1 dX5_lasts_9 (k := ?_)
  refine VE_getR 27 dX5_lasts_10 fl_X5_19 ?_
  refine VE_iload_n 2 dX5_lasts_13 (k := ?_)
  refine VE_iald dX5_lasts_14 h.1 ?_
  refine VE_if_ne 27 dX5_lasts_15 (fun c1 => ?_) (fun c1 => ?_)
  · refine VE_aload_n 1 dX5_lasts_27 (k := ?_)
    refine VE_getR 27 dX5_lasts_28 fl_X5_19 ?_
    refine VE_iload_n 2 dX5_lasts_31 (k := ?_)
    refine VE_iald dX5_lasts_32 h.1 ?_
    refine VE_iconst 1 dX5_lasts_33 (k := ?_)
    refine VE_icmp_ne 41 dX5_lasts_34 (fun c2 => ?_) (fun c2 => ?_)
    · refine VE_iconst 2 dX5_lasts_41 (k := ?_)
      refine VE_iload_n 0 dX5_lasts_42 (k := ?_)
      refine VE_imul dX5_lasts_43 ?_
      exact VM_iret dX5_lasts_44 ((h.2.1 c1).1 c2)
    · refine VE_iload_n 0 dX5_lasts_37 (k := ?_)
      refine VE_goto 44 dX5_lasts_38 ?_
      exact VM_iret dX5_lasts_44 ((h.2.1 c1).2 c2)
  · refine VE_aload_n 1 dX5_lasts_18 (k := ?_)
    refine VE_getR 28 dX5_lasts_19 fl_X5_22 ?_
    refine VE_iload_n 2 dX5_lasts_22 (k := ?_)
    refine VE_iald dX5_lasts_23 h.1 ?_
    refine VE_goto 44 dX5_lasts_24 ?_
    exact VM_iret dX5_lasts_44 (h.2.2 c1)
theorem dX5_ofHead_0 : decode cX5_ofHead 0 = .ok (.aload_n 0, 1) := by decide +kernel
theorem dX5_ofHead_1 : decode cX5_ofHead 1 = .ok (.iload_n 1, 1) := by decide +kernel
theorem dX5_ofHead_2 : decode cX5_ofHead 2 = .ok (.invokevirtual 100, 3) := by decide +kernel
theorem dX5_ofHead_5 : decode cX5_ofHead 5 = .ok (.ifCond .ne 5, 3) := by decide +kernel
theorem dX5_ofHead_8 : decode cX5_ofHead 8 = .ok (.iconst (-1), 1) := by decide +kernel
theorem dX5_ofHead_9 : decode cX5_ofHead 9 = .ok (.ireturn, 1) := by decide +kernel
theorem dX5_ofHead_10 : decode cX5_ofHead 10 = .ok (.iload_n 2, 1) := by decide +kernel
theorem dX5_ofHead_11 : decode cX5_ofHead 11 = .ok (.tableswitch 56 0 3 #[29, 36, 43, 50], 29) := by decide +kernel
theorem dX5_ofHead_40 : decode cX5_ofHead 40 = .ok (.aload_n 0, 1) := by decide +kernel
theorem dX5_ofHead_41 : decode cX5_ofHead 41 = .ok (.getfield 19, 3) := by decide +kernel
theorem dX5_ofHead_44 : decode cX5_ofHead 44 = .ok (.iload_n 1, 1) := by decide +kernel
theorem dX5_ofHead_45 : decode cX5_ofHead 45 = .ok (.iaload, 1) := by decide +kernel
theorem dX5_ofHead_46 : decode cX5_ofHead 46 = .ok (.ireturn, 1) := by decide +kernel
theorem dX5_ofHead_47 : decode cX5_ofHead 47 = .ok (.aload_n 0, 1) := by decide +kernel
theorem dX5_ofHead_48 : decode cX5_ofHead 48 = .ok (.getfield 22, 3) := by decide +kernel
theorem dX5_ofHead_51 : decode cX5_ofHead 51 = .ok (.iload_n 1, 1) := by decide +kernel
theorem dX5_ofHead_52 : decode cX5_ofHead 52 = .ok (.iaload, 1) := by decide +kernel
theorem dX5_ofHead_53 : decode cX5_ofHead 53 = .ok (.ireturn, 1) := by decide +kernel
theorem dX5_ofHead_54 : decode cX5_ofHead 54 = .ok (.aload_n 0, 1) := by decide +kernel
theorem dX5_ofHead_55 : decode cX5_ofHead 55 = .ok (.getfield 25, 3) := by decide +kernel
theorem dX5_ofHead_58 : decode cX5_ofHead 58 = .ok (.iload_n 1, 1) := by decide +kernel
theorem dX5_ofHead_59 : decode cX5_ofHead 59 = .ok (.iaload, 1) := by decide +kernel
theorem dX5_ofHead_60 : decode cX5_ofHead 60 = .ok (.ireturn, 1) := by decide +kernel
theorem dX5_ofHead_61 : decode cX5_ofHead 61 = .ok (.aload_n 0, 1) := by decide +kernel
theorem dX5_ofHead_62 : decode cX5_ofHead 62 = .ok (.iload_n 1, 1) := by decide +kernel
theorem dX5_ofHead_63 : decode cX5_ofHead 63 = .ok (.invokevirtual 103, 3) := by decide +kernel
theorem dX5_ofHead_66 : decode cX5_ofHead 66 = .ok (.ireturn, 1) := by decide +kernel
theorem dX5_ofHead_67 : decode cX5_ofHead 67 = .ok (.bipush (-2), 2) := by decide +kernel
theorem dX5_ofHead_69 : decode cX5_ofHead 69 = .ok (.ireturn, 1) := by decide +kernel
set_option maxRecDepth 20000 in
theorem S_X5_ofHead_0 {g : GG} {d : Nat} {F : Int32 → St → Prop} (a1 : Int32) (a2 : Int32) (σ : St) (h : (ME g d M_X5_isHead [vR 23, vI a1] σ (qI (fun r1 σ2 => ((¬ r1 = 0 → ((a2 = 0 → (vp_in a1 5 ∧ F (σ2 27 a1.toNatClampNeg) σ2)) ∧ (¬ a2 = 0 → ((a2 = 1 → (vp_in a1 5 ∧ F (σ2 28 a1.toNatClampNeg) σ2)) ∧ (¬ a2 = 1 → ((a2 = 2 → (vp_in a1 5 ∧ F (σ2 29 a1.toNatClampNeg) σ2)) ∧ (¬ a2 = 2 → ((a2 = 3 → (ME g d M_X5_lasts [vR 23, vI a1] σ2 (qI (fun r9 σ10 => F r9 σ10)))) ∧ (¬ a2 = 3 → F (-2) σ2))))))))) ∧ (r1 = 0 → F (-1) σ2)))))) : VM g (d + 1) M_X5_ofHead (qI F) 0 [(0, vR 23), (1, vI a1), (2, vI a2)] [] σ := by
  refine VE_aload_n 0 dX5_ofHead_0 (k := ?_)
  refine VE_iload_n 1 dX5_ofHead_1 (k := ?_)
  refine VE_cVi [vI a1] dX5_ofHead_2 ml_X5_100 h (fun r1 σ2 h3 => ?_) (rok_D d)
  refine VE_if_ne 10 dX5_ofHead_5 (fun c4 => ?_) (fun c4 => ?_)
  · refine VE_iload_n 2 dX5_ofHead_10 (k := ?_)
    by_cases c5 : a2 = 0
    · refine VE_tableIn 40 dX5_ofHead_11 (by rw [c5]; decide) (by rw [c5]; decide) (by rw [c5]; rfl) ?_
      refine VE_aload_n 0 dX5_ofHead_40 (k := ?_)
      refine VE_getR 27 dX5_ofHead_41 fl_X5_19 ?_
      refine VE_iload_n 1 dX5_ofHead_44 (k := ?_)
      refine VE_iald dX5_ofHead_45 ((h3.1 c4).1 c5).1 ?_
      exact VM_iret dX5_ofHead_46 ((h3.1 c4).1 c5).2
    · by_cases c6 : a2 = 1
      · refine VE_tableIn 47 dX5_ofHead_11 (by rw [c6]; decide) (by rw [c6]; decide) (by rw [c6]; rfl) ?_
        refine VE_aload_n 0 dX5_ofHead_47 (k := ?_)
        refine VE_getR 28 dX5_ofHead_48 fl_X5_22 ?_
        refine VE_iload_n 1 dX5_ofHead_51 (k := ?_)
        refine VE_iald dX5_ofHead_52 (((h3.1 c4).2 c5).1 c6).1 ?_
        exact VM_iret dX5_ofHead_53 (((h3.1 c4).2 c5).1 c6).2
      · by_cases c7 : a2 = 2
        · refine VE_tableIn 54 dX5_ofHead_11 (by rw [c7]; decide) (by rw [c7]; decide) (by rw [c7]; rfl) ?_
          refine VE_aload_n 0 dX5_ofHead_54 (k := ?_)
          refine VE_getR 29 dX5_ofHead_55 fl_X5_25 ?_
          refine VE_iload_n 1 dX5_ofHead_58 (k := ?_)
          refine VE_iald dX5_ofHead_59 ((((h3.1 c4).2 c5).2 c6).1 c7).1 ?_
          exact VM_iret dX5_ofHead_60 ((((h3.1 c4).2 c5).2 c6).1 c7).2
        · by_cases c8 : a2 = 3
          · refine VE_tableIn 61 dX5_ofHead_11 (by rw [c8]; decide) (by rw [c8]; decide) (by rw [c8]; rfl) ?_
            refine VE_aload_n 0 dX5_ofHead_61 (k := ?_)
            refine VE_iload_n 1 dX5_ofHead_62 (k := ?_)
            refine VE_cVi [vI a1] dX5_ofHead_63 ml_X5_103 (((((h3.1 c4).2 c5).2 c6).2 c7).1 c8) (fun r9 σ10 h11 => ?_) (rok_D d)
            exact VM_iret dX5_ofHead_66 h11
          · refine VE_tableOut 67 dX5_ofHead_11 (by have e0 : ¬ a2.toInt = 0 := i32_ne c5; have e1 : ¬ a2.toInt = 1 := i32_ne c6; have e2 : ¬ a2.toInt = 2 := i32_ne c7; have e3 : ¬ a2.toInt = 3 := i32_ne c8; omega) ?_
            refine VE_bipush (-2) dX5_ofHead_67 (k := ?_)
            exact VM_iret dX5_ofHead_69 (((((h3.1 c4).2 c5).2 c6).2 c7).2 c8)
  · refine VE_iconst (-1) dX5_ofHead_8 (k := ?_)
    exact VM_iret dX5_ofHead_9 (h3.2 c4)
theorem dX5_wear_0 : decode cX5_wear 0 = .ok (.aload_n 0, 1) := by decide +kernel
theorem dX5_wear_1 : decode cX5_wear 1 = .ok (.iload_n 1, 1) := by decide +kernel
theorem dX5_wear_2 : decode cX5_wear 2 = .ok (.invokevirtual 100, 3) := by decide +kernel
theorem dX5_wear_5 : decode cX5_wear 5 = .ok (.ifCond .ne 5, 3) := by decide +kernel
theorem dX5_wear_8 : decode cX5_wear 8 = .ok (.iconst (-1), 1) := by decide +kernel
theorem dX5_wear_9 : decode cX5_wear 9 = .ok (.ireturn, 1) := by decide +kernel
theorem dX5_wear_10 : decode cX5_wear 10 = .ok (.iload_n 2, 1) := by decide +kernel
theorem dX5_wear_11 : decode cX5_wear 11 = .ok (.iconst 1, 1) := by decide +kernel
theorem dX5_wear_12 : decode cX5_wear 12 = .ok (.bipush 9, 2) := by decide +kernel
theorem dX5_wear_14 : decode cX5_wear 14 = .ok (.invokestatic 55, 3) := by decide +kernel
theorem dX5_wear_17 : decode cX5_wear 17 = .ok (.ifCond .ne 6, 3) := by decide +kernel
theorem dX5_wear_20 : decode cX5_wear 20 = .ok (.bipush (-2), 2) := by decide +kernel
theorem dX5_wear_22 : decode cX5_wear 22 = .ok (.ireturn, 1) := by decide +kernel
theorem dX5_wear_23 : decode cX5_wear 23 = .ok (.aload_n 0, 1) := by decide +kernel
theorem dX5_wear_24 : decode cX5_wear 24 = .ok (.getfield 22, 3) := by decide +kernel
theorem dX5_wear_27 : decode cX5_wear 27 = .ok (.iload_n 1, 1) := by decide +kernel
theorem dX5_wear_28 : decode cX5_wear 28 = .ok (.iaload, 1) := by decide +kernel
theorem dX5_wear_29 : decode cX5_wear 29 = .ok (.istore_n 3, 1) := by decide +kernel
theorem dX5_wear_30 : decode cX5_wear 30 = .ok (.aload_n 0, 1) := by decide +kernel
theorem dX5_wear_31 : decode cX5_wear 31 = .ok (.getfield 22, 3) := by decide +kernel
theorem dX5_wear_34 : decode cX5_wear 34 = .ok (.iload_n 1, 1) := by decide +kernel
theorem dX5_wear_35 : decode cX5_wear 35 = .ok (.iload_n 2, 1) := by decide +kernel
theorem dX5_wear_36 : decode cX5_wear 36 = .ok (.iastore, 1) := by decide +kernel
theorem dX5_wear_37 : decode cX5_wear 37 = .ok (.iload_n 3, 1) := by decide +kernel
theorem dX5_wear_38 : decode cX5_wear 38 = .ok (.ireturn, 1) := by decide +kernel
set_option maxRecDepth 20000 in
theorem S_X5_wear_0 {g : GG} {d : Nat} {F : Int32 → St → Prop} (a1 : Int32) (a2 : Int32) (σ : St) (h : (ME g d M_X5_isHead [vR 23, vI a1] σ (qI (fun r1 σ2 => ((¬ r1 = 0 → (ME g d M_X5_within [vI a2, vI 1, vI 9] σ2 (qI (fun r5 σ6 => ((¬ r5 = 0 → (vp_in a1 5 ∧ F (σ6 28 a1.toNatClampNeg) (sU σ6 28 a1.toNatClampNeg a2))) ∧ (r5 = 0 → F (-2) σ6)))))) ∧ (r1 = 0 → F (-1) σ2)))))) : VM g (d + 1) M_X5_wear (qI F) 0 [(0, vR 23), (1, vI a1), (2, vI a2)] [] σ := by
  refine VE_aload_n 0 dX5_wear_0 (k := ?_)
  refine VE_iload_n 1 dX5_wear_1 (k := ?_)
  refine VE_cVi [vI a1] dX5_wear_2 ml_X5_100 h (fun r1 σ2 h3 => ?_) (rok_D d)
  refine VE_if_ne 10 dX5_wear_5 (fun c4 => ?_) (fun c4 => ?_)
  · refine VE_iload_n 2 dX5_wear_10 (k := ?_)
    refine VE_iconst 1 dX5_wear_11 (k := ?_)
    refine VE_bipush 9 dX5_wear_12 (k := ?_)
    refine VE_cSi [vI a2, vI 1, vI 9] dX5_wear_14 ml_X5_55 (h3.1 c4) (fun r5 σ6 h7 => ?_) (rok_D d)
    refine VE_if_ne 23 dX5_wear_17 (fun c8 => ?_) (fun c8 => ?_)
    · refine VE_aload_n 0 dX5_wear_23 (k := ?_)
      refine VE_getR 28 dX5_wear_24 fl_X5_22 ?_
      refine VE_iload_n 1 dX5_wear_27 (k := ?_)
      refine VE_iald dX5_wear_28 (h7.1 c8).1 ?_
      refine VE_istore_n (ls' := [(3, vI (σ6 28 a1.toNatClampNeg)), (0, vR 23), (1, vI a1), (2, vI a2)]) dX5_wear_29 ?_
      refine VE_aload_n 1 dX5_wear_30 (k := ?_)
      refine VE_getR 28 dX5_wear_31 fl_X5_22 ?_
      refine VE_iload_n 2 dX5_wear_34 (k := ?_)
      refine VE_iload_n 3 dX5_wear_35 (k := ?_)
      refine VE_iast dX5_wear_36 (h7.1 c8).1 ?_
      refine VE_iload_n 0 dX5_wear_37 (k := ?_)
      exact VM_iret dX5_wear_38 (h7.1 c8).2
    · refine VE_bipush (-2) dX5_wear_20 (k := ?_)
      exact VM_iret dX5_wear_22 (h7.2 c8)
  · refine VE_iconst (-1) dX5_wear_8 (k := ?_)
    exact VM_iret dX5_wear_9 (h3.2 c4)
theorem dX5_knows_0 : decode cX5_knows 0 = .ok (.aload_n 0, 1) := by decide +kernel
theorem dX5_knows_1 : decode cX5_knows 1 = .ok (.iload_n 1, 1) := by decide +kernel
theorem dX5_knows_2 : decode cX5_knows 2 = .ok (.invokevirtual 100, 3) := by decide +kernel
theorem dX5_knows_5 : decode cX5_knows 5 = .ok (.ifCond .ne 5, 3) := by decide +kernel
theorem dX5_knows_8 : decode cX5_knows 8 = .ok (.iconst (-1), 1) := by decide +kernel
theorem dX5_knows_9 : decode cX5_knows 9 = .ok (.ireturn, 1) := by decide +kernel
theorem dX5_knows_10 : decode cX5_knows 10 = .ok (.iload_n 2, 1) := by decide +kernel
theorem dX5_knows_11 : decode cX5_knows 11 = .ok (.iconst 0, 1) := by decide +kernel
theorem dX5_knows_12 : decode cX5_knows 12 = .ok (.iconst 5, 1) := by decide +kernel
theorem dX5_knows_13 : decode cX5_knows 13 = .ok (.invokestatic 55, 3) := by decide +kernel
theorem dX5_knows_16 : decode cX5_knows 16 = .ok (.ifCond .ne 6, 3) := by decide +kernel
theorem dX5_knows_19 : decode cX5_knows 19 = .ok (.bipush (-2), 2) := by decide +kernel
theorem dX5_knows_21 : decode cX5_knows 21 = .ok (.ireturn, 1) := by decide +kernel
theorem dX5_knows_22 : decode cX5_knows 22 = .ok (.aload_n 0, 1) := by decide +kernel
theorem dX5_knows_23 : decode cX5_knows 23 = .ok (.getfield 25, 3) := by decide +kernel
theorem dX5_knows_26 : decode cX5_knows 26 = .ok (.iload_n 1, 1) := by decide +kernel
theorem dX5_knows_27 : decode cX5_knows 27 = .ok (.iaload, 1) := by decide +kernel
theorem dX5_knows_28 : decode cX5_knows 28 = .ok (.istore_n 3, 1) := by decide +kernel
theorem dX5_knows_29 : decode cX5_knows 29 = .ok (.aload_n 0, 1) := by decide +kernel
theorem dX5_knows_30 : decode cX5_knows 30 = .ok (.getfield 25, 3) := by decide +kernel
theorem dX5_knows_33 : decode cX5_knows 33 = .ok (.iload_n 1, 1) := by decide +kernel
theorem dX5_knows_34 : decode cX5_knows 34 = .ok (.iload_n 2, 1) := by decide +kernel
theorem dX5_knows_35 : decode cX5_knows 35 = .ok (.iastore, 1) := by decide +kernel
theorem dX5_knows_36 : decode cX5_knows 36 = .ok (.iload_n 3, 1) := by decide +kernel
theorem dX5_knows_37 : decode cX5_knows 37 = .ok (.ireturn, 1) := by decide +kernel
set_option maxRecDepth 20000 in
theorem S_X5_knows_0 {g : GG} {d : Nat} {F : Int32 → St → Prop} (a1 : Int32) (a2 : Int32) (σ : St) (h : (ME g d M_X5_isHead [vR 23, vI a1] σ (qI (fun r1 σ2 => ((¬ r1 = 0 → (ME g d M_X5_within [vI a2, vI 0, vI 5] σ2 (qI (fun r5 σ6 => ((¬ r5 = 0 → (vp_in a1 5 ∧ F (σ6 29 a1.toNatClampNeg) (sU σ6 29 a1.toNatClampNeg a2))) ∧ (r5 = 0 → F (-2) σ6)))))) ∧ (r1 = 0 → F (-1) σ2)))))) : VM g (d + 1) M_X5_knows (qI F) 0 [(0, vR 23), (1, vI a1), (2, vI a2)] [] σ := by
  refine VE_aload_n 0 dX5_knows_0 (k := ?_)
  refine VE_iload_n 1 dX5_knows_1 (k := ?_)
  refine VE_cVi [vI a1] dX5_knows_2 ml_X5_100 h (fun r1 σ2 h3 => ?_) (rok_D d)
  refine VE_if_ne 10 dX5_knows_5 (fun c4 => ?_) (fun c4 => ?_)
  · refine VE_iload_n 2 dX5_knows_10 (k := ?_)
    refine VE_iconst 0 dX5_knows_11 (k := ?_)
    refine VE_iconst 5 dX5_knows_12 (k := ?_)
    refine VE_cSi [vI a2, vI 0, vI 5] dX5_knows_13 ml_X5_55 (h3.1 c4) (fun r5 σ6 h7 => ?_) (rok_D d)
    refine VE_if_ne 22 dX5_knows_16 (fun c8 => ?_) (fun c8 => ?_)
    · refine VE_aload_n 0 dX5_knows_22 (k := ?_)
      refine VE_getR 29 dX5_knows_23 fl_X5_25 ?_
      refine VE_iload_n 1 dX5_knows_26 (k := ?_)
      refine VE_iald dX5_knows_27 (h7.1 c8).1 ?_
      refine VE_istore_n (ls' := [(3, vI (σ6 29 a1.toNatClampNeg)), (0, vR 23), (1, vI a1), (2, vI a2)]) dX5_knows_28 ?_
      refine VE_aload_n 1 dX5_knows_29 (k := ?_)
      refine VE_getR 29 dX5_knows_30 fl_X5_25 ?_
      refine VE_iload_n 2 dX5_knows_33 (k := ?_)
      refine VE_iload_n 3 dX5_knows_34 (k := ?_)
      refine VE_iast dX5_knows_35 (h7.1 c8).1 ?_
      refine VE_iload_n 0 dX5_knows_36 (k := ?_)
      exact VM_iret dX5_knows_37 (h7.1 c8).2
    · refine VE_bipush (-2) dX5_knows_19 (k := ?_)
      exact VM_iret dX5_knows_21 (h7.2 c8)
  · refine VE_iconst (-1) dX5_knows_8 (k := ?_)
    exact VM_iret dX5_knows_9 (h3.2 c4)
theorem dX5_begin_0 : decode cX5_begin 0 = .ok (.iconst 0, 1) := by decide +kernel
theorem dX5_begin_1 : decode cX5_begin 1 = .ok (.istore_n 1, 1) := by decide +kernel
theorem dX5_begin_2 : decode cX5_begin 2 = .ok (.iload_n 1, 1) := by decide +kernel
theorem dX5_begin_3 : decode cX5_begin 3 = .ok (.aload_n 0, 1) := by decide +kernel
theorem dX5_begin_4 : decode cX5_begin 4 = .ok (.getfield 59, 3) := by decide +kernel
theorem dX5_begin_7 : decode cX5_begin 7 = .ok (.if_icmp .ge 23, 3) := by decide +kernel
theorem dX5_begin_10 : decode cX5_begin 10 = .ok (.aload_n 0, 1) := by decide +kernel
theorem dX5_begin_11 : decode cX5_begin 11 = .ok (.getfield 31, 3) := by decide +kernel
theorem dX5_begin_14 : decode cX5_begin 14 = .ok (.iload_n 1, 1) := by decide +kernel
theorem dX5_begin_15 : decode cX5_begin 15 = .ok (.iload_n 1, 1) := by decide +kernel
theorem dX5_begin_16 : decode cX5_begin 16 = .ok (.iastore, 1) := by decide +kernel
theorem dX5_begin_17 : decode cX5_begin 17 = .ok (.aload_n 0, 1) := by decide +kernel
theorem dX5_begin_18 : decode cX5_begin 18 = .ok (.getfield 34, 3) := by decide +kernel
theorem dX5_begin_21 : decode cX5_begin 21 = .ok (.iload_n 1, 1) := by decide +kernel
theorem dX5_begin_22 : decode cX5_begin 22 = .ok (.iconst 0, 1) := by decide +kernel
theorem dX5_begin_23 : decode cX5_begin 23 = .ok (.iastore, 1) := by decide +kernel
theorem dX5_begin_24 : decode cX5_begin 24 = .ok (.iinc 1 1, 3) := by decide +kernel
theorem dX5_begin_27 : decode cX5_begin 27 = .ok (.goto (-25), 3) := by decide +kernel
theorem dX5_begin_30 : decode cX5_begin 30 = .ok (.aload_n 0, 1) := by decide +kernel
theorem dX5_begin_31 : decode cX5_begin 31 = .ok (.bipush (-9), 2) := by decide +kernel
theorem dX5_begin_33 : decode cX5_begin 33 = .ok (.putfield 106, 3) := by decide +kernel
theorem dX5_begin_36 : decode cX5_begin 36 = .ok (.return_, 1) := by decide +kernel
set_option maxRecDepth 20000 in
theorem S_X5_begin_0 {g : GG} {d : Nat} {F : St → Prop}  (σ : St) (h : VM g d M_X5_begin (qV F) 2 [(0, vR 23), (1, vI 0)] [] σ) : VM g d M_X5_begin (qV F) 0 [(0, vR 23)] [] σ := by
  refine VE_iconst 0 dX5_begin_0 (k := ?_)
  refine VE_istore_n (ls' := [(1, vI 0), (0, vR 23)]) dX5_begin_1 ?_
  exact VE_sub [1, 0] rfl h
set_option maxRecDepth 20000 in
theorem S_X5_begin_2 {g : GG} {d : Nat} {F : St → Prop} (x1 : Int32) (σ : St) (h : (((σ 23 5) ≤ x1 → F (sU σ 23 14 (-9))) ∧ (¬ (σ 23 5) ≤ x1 → (vp_in x1 5 ∧ VM g d M_X5_begin (qV F) 2 [(0, vR 23), (1, vI (x1 + 1))] [] (sU (sU σ 31 x1.toNatClampNeg x1) 32 x1.toNatClampNeg 0))))) : VM g d M_X5_begin (qV F) 2 [(0, vR 23), (1, vI x1)] [] σ := by
  refine VE_iload_n 1 dX5_begin_2 (k := ?_)
  refine VE_aload_n 0 dX5_begin_3 (k := ?_)
  refine VE_getI dX5_begin_4 fl_X5_59 ?_
  refine VE_icmp_ge 30 dX5_begin_7 (fun c1 => ?_) (fun c1 => ?_)
  · refine VE_aload_n 0 dX5_begin_30 (k := ?_)
    refine VE_bipush (-9) dX5_begin_31 (k := ?_)
    refine VE_put dX5_begin_33 fl_X5_106 ?_
    exact VM_vret dX5_begin_36 (h.1 c1)
  · refine VE_aload_n 0 dX5_begin_10 (k := ?_)
    refine VE_getR 31 dX5_begin_11 fl_X5_31 ?_
    refine VE_iload_n 1 dX5_begin_14 (k := ?_)
    refine VE_iload_n 1 dX5_begin_15 (k := ?_)
    refine VE_iast dX5_begin_16 (h.2 c1).1 ?_
    refine VE_aload_n 0 dX5_begin_17 (k := ?_)
    refine VE_getR 32 dX5_begin_18 fl_X5_34 ?_
    refine VE_iload_n 1 dX5_begin_21 (k := ?_)
    refine VE_iconst 0 dX5_begin_22 (k := ?_)
    refine VE_iast dX5_begin_23 (h.2 c1).1 ?_
    refine VE_iinc 1 (x1 + 1) (ls' := [(1, vI (x1 + 1)), (0, vR 23)]) dX5_begin_24 ?_
    refine VE_goto 2 dX5_begin_27 ?_
    exact VE_sub [1, 0] rfl (h.2 c1).2
theorem dX5_change_0 : decode cX5_change 0 = .ok (.aload_n 0, 1) := by decide +kernel
theorem dX5_change_1 : decode cX5_change 1 = .ok (.getfield 31, 3) := by decide +kernel
theorem dX5_change_4 : decode cX5_change 4 = .ok (.iload_n 1, 1) := by decide +kernel
theorem dX5_change_5 : decode cX5_change 5 = .ok (.iaload, 1) := by decide +kernel
theorem dX5_change_6 : decode cX5_change 6 = .ok (.istore_n 2, 1) := by decide +kernel
theorem dX5_change_7 : decode cX5_change 7 = .ok (.aload_n 0, 1) := by decide +kernel
theorem dX5_change_8 : decode cX5_change 8 = .ok (.getfield 31, 3) := by decide +kernel
theorem dX5_change_11 : decode cX5_change 11 = .ok (.iload_n 1, 1) := by decide +kernel
theorem dX5_change_12 : decode cX5_change 12 = .ok (.aload_n 0, 1) := by decide +kernel
theorem dX5_change_13 : decode cX5_change 13 = .ok (.getfield 106, 3) := by decide +kernel
theorem dX5_change_16 : decode cX5_change 16 = .ok (.iastore, 1) := by decide +kernel
theorem dX5_change_17 : decode cX5_change 17 = .ok (.aload_n 0, 1) := by decide +kernel
theorem dX5_change_18 : decode cX5_change 18 = .ok (.iload_n 2, 1) := by decide +kernel
theorem dX5_change_19 : decode cX5_change 19 = .ok (.putfield 106, 3) := by decide +kernel
theorem dX5_change_22 : decode cX5_change 22 = .ok (.return_, 1) := by decide +kernel
set_option maxRecDepth 20000 in
theorem S_X5_change_0 {g : GG} {d : Nat} {F : St → Prop} (a1 : Int32) (σ : St) (h : (vp_in a1 5 ∧ F (sU (sU σ 31 a1.toNatClampNeg (σ 23 14)) 23 14 (σ 31 a1.toNatClampNeg)))) : VM g d M_X5_change (qV F) 0 [(0, vR 23), (1, vI a1)] [] σ := by
  refine VE_aload_n 0 dX5_change_0 (k := ?_)
  refine VE_getR 31 dX5_change_1 fl_X5_31 ?_
  refine VE_iload_n 1 dX5_change_4 (k := ?_)
  refine VE_iald dX5_change_5 h.1 ?_
  refine VE_istore_n (ls' := [(2, vI (σ 31 a1.toNatClampNeg)), (0, vR 23), (1, vI a1)]) dX5_change_6 ?_
  refine VE_aload_n 1 dX5_change_7 (k := ?_)
  refine VE_getR 31 dX5_change_8 fl_X5_31 ?_
  refine VE_iload_n 2 dX5_change_11 (k := ?_)
  refine VE_aload_n 1 dX5_change_12 (k := ?_)
  refine VE_getI dX5_change_13 fl_X5_106 ?_
  refine VE_iast dX5_change_16 h.1 ?_
  refine VE_aload_n 1 dX5_change_17 (k := ?_)
  refine VE_iload_n 0 dX5_change_18 (k := ?_)
  refine VE_put dX5_change_19 fl_X5_106 ?_
  exact VM_vret dX5_change_22 h.2
theorem dX5_visit_0 : decode cX5_visit 0 = .ok (.aload_n 0, 1) := by decide +kernel
theorem dX5_visit_1 : decode cX5_visit 1 = .ok (.getfield 106, 3) := by decide +kernel
theorem dX5_visit_4 : decode cX5_visit 4 = .ok (.bipush (-9), 2) := by decide +kernel
theorem dX5_visit_6 : decode cX5_visit 6 = .ok (.if_icmp .eq 38, 3) := by decide +kernel
theorem dX5_visit_9 : decode cX5_visit 9 = .ok (.aload_n 0, 1) := by decide +kernel
theorem dX5_visit_10 : decode cX5_visit 10 = .ok (.getfield 34, 3) := by decide +kernel
theorem dX5_visit_13 : decode cX5_visit 13 = .ok (.aload_n 0, 1) := by decide +kernel
theorem dX5_visit_14 : decode cX5_visit 14 = .ok (.getfield 106, 3) := by decide +kernel
theorem dX5_visit_17 : decode cX5_visit 17 = .ok (.iaload, 1) := by decide +kernel
theorem dX5_visit_18 : decode cX5_visit 18 = .ok (.aload_n 0, 1) := by decide +kernel
theorem dX5_visit_19 : decode cX5_visit 19 = .ok (.aload_n 0, 1) := by decide +kernel
theorem dX5_visit_20 : decode cX5_visit 20 = .ok (.getfield 106, 3) := by decide +kernel
theorem dX5_visit_23 : decode cX5_visit 23 = .ok (.invokevirtual 103, 3) := by decide +kernel
theorem dX5_visit_26 : decode cX5_visit 26 = .ok (.if_icmp .ne 5, 3) := by decide +kernel
theorem dX5_visit_29 : decode cX5_visit 29 = .ok (.iconst 0, 1) := by decide +kernel
theorem dX5_visit_30 : decode cX5_visit 30 = .ok (.ireturn, 1) := by decide +kernel
theorem dX5_visit_31 : decode cX5_visit 31 = .ok (.aload_n 0, 1) := by decide +kernel
theorem dX5_visit_32 : decode cX5_visit 32 = .ok (.getfield 34, 3) := by decide +kernel
theorem dX5_visit_35 : decode cX5_visit 35 = .ok (.aload_n 0, 1) := by decide +kernel
theorem dX5_visit_36 : decode cX5_visit 36 = .ok (.getfield 106, 3) := by decide +kernel
theorem dX5_visit_39 : decode cX5_visit 39 = .ok (.dup2, 1) := by decide +kernel
theorem dX5_visit_40 : decode cX5_visit 40 = .ok (.iaload, 1) := by decide +kernel
theorem dX5_visit_41 : decode cX5_visit 41 = .ok (.iconst 1, 1) := by decide +kernel
theorem dX5_visit_42 : decode cX5_visit 42 = .ok (.iadd, 1) := by decide +kernel
theorem dX5_visit_43 : decode cX5_visit 43 = .ok (.iastore, 1) := by decide +kernel
theorem dX5_visit_44 : decode cX5_visit 44 = .ok (.aload_n 0, 1) := by decide +kernel
theorem dX5_visit_45 : decode cX5_visit 45 = .ok (.iload_n 1, 1) := by decide +kernel
theorem dX5_visit_46 : decode cX5_visit 46 = .ok (.invokevirtual 109, 3) := by decide +kernel
theorem dX5_visit_49 : decode cX5_visit 49 = .ok (.iconst 1, 1) := by decide +kernel
theorem dX5_visit_50 : decode cX5_visit 50 = .ok (.ireturn, 1) := by decide +kernel
set_option maxRecDepth 20000 in
theorem S_X5_visit_0 {g : GG} {d : Nat} {F : Int32 → St → Prop} (a1 : Int32) (σ : St) (h : (((σ 23 14) = (-9) → (ME g d M_X5_change [vR 23, vI a1] σ (qV (fun σ3 => F 1 σ3)))) ∧ (¬ (σ 23 14) = (-9) → (vp_in (σ 23 14) 5 ∧ (ME g d M_X5_lasts [vR 23, vI (σ 23 14)] σ (qI (fun r5 σ6 => ((¬ (σ 32 ((σ 23 14).toNatClampNeg)) = r5 → (vp_in (σ6 23 14) 5 ∧ (ME g d M_X5_change [vR 23, vI a1] (sU σ6 32 ((σ6 23 14).toNatClampNeg) ((σ6 32 ((σ6 23 14).toNatClampNeg)) + 1)) (qV (fun σ10 => F 1 σ10))))) ∧ ((σ 32 ((σ 23 14).toNatClampNeg)) = r5 → F 0 σ6))))))))) : VM g (d + 1) M_X5_visit (qI F) 0 [(0, vR 23), (1, vI a1)] [] σ := by
  refine VE_aload_n 0 dX5_visit_0 (k := ?_)
  refine VE_getI dX5_visit_1 fl_X5_106 ?_
  refine VE_bipush (-9) dX5_visit_4 (k := ?_)
  refine VE_icmp_eq 44 dX5_visit_6 (fun c1 => ?_) (fun c1 => ?_)
  · refine VE_aload_n 0 dX5_visit_44 (k := ?_)
    refine VE_iload_n 1 dX5_visit_45 (k := ?_)
    refine VE_cVv [vI a1] dX5_visit_46 ml_X5_109 (h.1 c1) (fun σ3 h4 => ?_) (rok_D d)
    refine VE_iconst 1 dX5_visit_49 (k := ?_)
    exact VM_zret dX5_visit_50 h4 (by decide)
  · refine VE_aload_n 0 dX5_visit_9 (k := ?_)
    refine VE_getR 32 dX5_visit_10 fl_X5_34 ?_
    refine VE_aload_n 0 dX5_visit_13 (k := ?_)
    refine VE_getI dX5_visit_14 fl_X5_106 ?_
    refine VE_iald dX5_visit_17 (h.2 c1).1 ?_
    refine VE_aload_n 0 dX5_visit_18 (k := ?_)
    refine VE_aload_n 0 dX5_visit_19 (k := ?_)
    refine VE_getI dX5_visit_20 fl_X5_106 ?_
    refine VE_cVi [vI (σ 23 14)] dX5_visit_23 ml_X5_103 (h.2 c1).2 (fun r5 σ6 h7 => ?_) (rok_D d)
    refine VE_icmp_ne 31 dX5_visit_26 (fun c8 => ?_) (fun c8 => ?_)
    · refine VE_aload_n 0 dX5_visit_31 (k := ?_)
      refine VE_getR 32 dX5_visit_32 fl_X5_34 ?_
      refine VE_aload_n 0 dX5_visit_35 (k := ?_)
      refine VE_getI dX5_visit_36 fl_X5_106 ?_
      refine VE_dup2 dX5_visit_39 (k := ?_)
      refine VE_iald dX5_visit_40 (h7.1 c8).1 ?_
      refine VE_iconst 1 dX5_visit_41 (k := ?_)
      refine VE_iadd dX5_visit_42 ?_
      refine VE_iast dX5_visit_43 (h7.1 c8).1 ?_
      refine VE_aload_n 0 dX5_visit_44 (k := ?_)
      refine VE_iload_n 1 dX5_visit_45 (k := ?_)
      refine VE_cVv [vI a1] dX5_visit_46 ml_X5_109 (h7.1 c8).2 (fun σ10 h11 => ?_) (rok_D d)
      refine VE_iconst 1 dX5_visit_49 (k := ?_)
      exact VM_zret dX5_visit_50 h11 (by decide)
    · refine VE_iconst 0 dX5_visit_29 (k := ?_)
      exact VM_zret dX5_visit_30 (h7.2 c8) (by decide)
theorem dX5_layVisits_0 : decode cX5_layVisits 0 = .ok (.aload_n 0, 1) := by decide +kernel
theorem dX5_layVisits_1 : decode cX5_layVisits 1 = .ok (.iload_n 1, 1) := by decide +kernel
theorem dX5_layVisits_2 : decode cX5_layVisits 2 = .ok (.iload_n 2, 1) := by decide +kernel
theorem dX5_layVisits_3 : decode cX5_layVisits 3 = .ok (.iload_n 3, 1) := by decide +kernel
theorem dX5_layVisits_4 : decode cX5_layVisits 4 = .ok (.iload 4, 2) := by decide +kernel
theorem dX5_layVisits_6 : decode cX5_layVisits 6 = .ok (.invokevirtual 72, 3) := by decide +kernel
theorem dX5_layVisits_9 : decode cX5_layVisits 9 = .ok (.istore 5, 2) := by decide +kernel
theorem dX5_layVisits_11 : decode cX5_layVisits 11 = .ok (.iload 5, 2) := by decide +kernel
theorem dX5_layVisits_13 : decode cX5_layVisits 13 = .ok (.ifCond .eq 10, 3) := by decide +kernel
theorem dX5_layVisits_16 : decode cX5_layVisits 16 = .ok (.aload_n 0, 1) := by decide +kernel
theorem dX5_layVisits_17 : decode cX5_layVisits 17 = .ok (.iload 5, 2) := by decide +kernel
theorem dX5_layVisits_19 : decode cX5_layVisits 19 = .ok (.invokevirtual 76, 3) := by decide +kernel
theorem dX5_layVisits_22 : decode cX5_layVisits 22 = .ok (.ireturn, 1) := by decide +kernel
theorem dX5_layVisits_23 : decode cX5_layVisits 23 = .ok (.aload_n 0, 1) := by decide +kernel
theorem dX5_layVisits_24 : decode cX5_layVisits 24 = .ok (.getfield 59, 3) := by decide +kernel
theorem dX5_layVisits_27 : decode cX5_layVisits 27 = .ok (.ifCond .ne 6, 3) := by decide +kernel
theorem dX5_layVisits_30 : decode cX5_layVisits 30 = .ok (.bipush (-3), 2) := by decide +kernel
theorem dX5_layVisits_32 : decode cX5_layVisits 32 = .ok (.ireturn, 1) := by decide +kernel
theorem dX5_layVisits_33 : decode cX5_layVisits 33 = .ok (.iconst 0, 1) := by decide +kernel
theorem dX5_layVisits_34 : decode cX5_layVisits 34 = .ok (.istore 6, 2) := by decide +kernel
theorem dX5_layVisits_36 : decode cX5_layVisits 36 = .ok (.iload 6, 2) := by decide +kernel
theorem dX5_layVisits_38 : decode cX5_layVisits 38 = .ok (.iload 4, 2) := by decide +kernel
theorem dX5_layVisits_40 : decode cX5_layVisits 40 = .ok (.if_icmp .ge 46, 3) := by decide +kernel
theorem dX5_layVisits_43 : decode cX5_layVisits 43 = .ok (.aload_n 0, 1) := by decide +kernel
theorem dX5_layVisits_44 : decode cX5_layVisits 44 = .ok (.getfield 37, 3) := by decide +kernel
theorem dX5_layVisits_47 : decode cX5_layVisits 47 = .ok (.iload 6, 2) := by decide +kernel
theorem dX5_layVisits_49 : decode cX5_layVisits 49 = .ok (.aload_n 0, 1) := by decide +kernel
theorem dX5_layVisits_50 : decode cX5_layVisits 50 = .ok (.getfield 16, 3) := by decide +kernel
theorem dX5_layVisits_53 : decode cX5_layVisits 53 = .ok (.bipush 60, 2) := by decide +kernel
theorem dX5_layVisits_55 : decode cX5_layVisits 55 = .ok (.iload_n 1, 1) := by decide +kernel
theorem dX5_layVisits_56 : decode cX5_layVisits 56 = .ok (.imul, 1) := by decide +kernel
theorem dX5_layVisits_57 : decode cX5_layVisits 57 = .ok (.iload_n 3, 1) := by decide +kernel
theorem dX5_layVisits_58 : decode cX5_layVisits 58 = .ok (.iadd, 1) := by decide +kernel
theorem dX5_layVisits_59 : decode cX5_layVisits 59 = .ok (.iload 6, 2) := by decide +kernel
theorem dX5_layVisits_61 : decode cX5_layVisits 61 = .ok (.iadd, 1) := by decide +kernel
theorem dX5_layVisits_62 : decode cX5_layVisits 62 = .ok (.iaload, 1) := by decide +kernel
theorem dX5_layVisits_63 : decode cX5_layVisits 63 = .ok (.iastore, 1) := by decide +kernel
theorem dX5_layVisits_64 : decode cX5_layVisits 64 = .ok (.aload_n 0, 1) := by decide +kernel
theorem dX5_layVisits_65 : decode cX5_layVisits 65 = .ok (.aload_n 0, 1) := by decide +kernel
theorem dX5_layVisits_66 : decode cX5_layVisits 66 = .ok (.getfield 37, 3) := by decide +kernel
theorem dX5_layVisits_69 : decode cX5_layVisits 69 = .ok (.iload 6, 2) := by decide +kernel
theorem dX5_layVisits_71 : decode cX5_layVisits 71 = .ok (.iaload, 1) := by decide +kernel
theorem dX5_layVisits_72 : decode cX5_layVisits 72 = .ok (.invokevirtual 100, 3) := by decide +kernel
theorem dX5_layVisits_75 : decode cX5_layVisits 75 = .ok (.ifCond .ne 5, 3) := by decide +kernel
theorem dX5_layVisits_78 : decode cX5_layVisits 78 = .ok (.iconst (-1), 1) := by decide +kernel
theorem dX5_layVisits_79 : decode cX5_layVisits 79 = .ok (.ireturn, 1) := by decide +kernel
theorem dX5_layVisits_80 : decode cX5_layVisits 80 = .ok (.iinc 6 1, 3) := by decide +kernel
theorem dX5_layVisits_83 : decode cX5_layVisits 83 = .ok (.goto (-47), 3) := by decide +kernel
theorem dX5_layVisits_86 : decode cX5_layVisits 86 = .ok (.aload_n 0, 1) := by decide +kernel
theorem dX5_layVisits_87 : decode cX5_layVisits 87 = .ok (.iload 4, 2) := by decide +kernel
theorem dX5_layVisits_89 : decode cX5_layVisits 89 = .ok (.putfield 113, 3) := by decide +kernel
theorem dX5_layVisits_92 : decode cX5_layVisits 92 = .ok (.iconst 0, 1) := by decide +kernel
theorem dX5_layVisits_93 : decode cX5_layVisits 93 = .ok (.ireturn, 1) := by decide +kernel
set_option maxRecDepth 20000 in
theorem S_X5_layVisits_0 {g : GG} {d : Nat} {F : Int32 → St → Prop} (a1 : Int32) (a2 : Int32) (a3 : Int32) (a4 : Int32) (σ : St) (h : (ME g d M_X5_against [vR 23, vI a1, vI a2, vI a3, vI a4] σ (qI (fun r1 σ2 => ((r1 = 0 → ((¬ (σ2 23 5) = 0 → VM g (d + 1) M_X5_layVisits (qI F) 36 [(0, vR 23), (1, vI a1), (2, vI a2), (3, vI a3), (4, vI a4), (5, vI r1), (6, vI 0)] [] σ2) ∧ ((σ2 23 5) = 0 → F (-3) σ2))) ∧ (¬ r1 = 0 → (ME g d M_X5_fails [vR 23, vI r1] σ2 (qI (fun r6 σ7 => F r6 σ7))))))))) : VM g (d + 1) M_X5_layVisits (qI F) 0 [(0, vR 23), (1, vI a1), (2, vI a2), (3, vI a3), (4, vI a4)] [] σ := by
  refine VE_aload_n 0 dX5_layVisits_0 (k := ?_)
  refine VE_iload_n 1 dX5_layVisits_1 (k := ?_)
  refine VE_iload_n 2 dX5_layVisits_2 (k := ?_)
  refine VE_iload_n 3 dX5_layVisits_3 (k := ?_)
  refine VE_iload 4 dX5_layVisits_4 (k := ?_)
  refine VE_cVi [vI a1, vI a2, vI a3, vI a4] dX5_layVisits_6 ml_X5_72 h (fun r1 σ2 h3 => ?_) (rok_D d)
  refine VE_istore (ls' := [(5, vI r1), (0, vR 23), (1, vI a1), (2, vI a2), (3, vI a3), (4, vI a4)]) dX5_layVisits_9 ?_
  refine VE_iload 0 dX5_layVisits_11 (k := ?_)
  refine VE_if_eq 23 dX5_layVisits_13 (fun c4 => ?_) (fun c4 => ?_)
  · refine VE_aload_n 1 dX5_layVisits_23 (k := ?_)
    refine VE_getI dX5_layVisits_24 fl_X5_59 ?_
    refine VE_if_ne 33 dX5_layVisits_27 (fun c5 => ?_) (fun c5 => ?_)
    · refine VE_iconst 0 dX5_layVisits_33 (k := ?_)
      refine VE_istore (ls' := [(6, vI 0), (5, vI r1), (0, vR 23), (1, vI a1), (2, vI a2), (3, vI a3), (4, vI a4)]) dX5_layVisits_34 ?_
      exact VE_sub [2, 3, 4, 5, 6, 1, 0] rfl ((h3.1 c4).1 c5)
    · refine VE_bipush (-3) dX5_layVisits_30 (k := ?_)
      exact VM_iret dX5_layVisits_32 ((h3.1 c4).2 c5)
  · refine VE_aload_n 1 dX5_layVisits_16 (k := ?_)
    refine VE_iload 0 dX5_layVisits_17 (k := ?_)
    refine VE_cVi [vI r1] dX5_layVisits_19 ml_X5_76 (h3.2 c4) (fun r6 σ7 h8 => ?_) (rok_D d)
    exact VM_iret dX5_layVisits_22 h8
set_option maxRecDepth 20000 in
theorem S_X5_layVisits_36 {g : GG} {d : Nat} {F : Int32 → St → Prop} (x1 : Int32) (x2 : Int32) (x3 : Int32) (x4 : Int32) (x5 : Int32) (x6 : Int32) (σ : St) (h : ((x4 ≤ x6 → F 0 (sU σ 23 15 x4)) ∧ (¬ x4 ≤ x6 → (vp_in (((60 * x1) + x3) + x6) 240 ∧ (vp_in x6 20 ∧ (ME g d M_X5_isHead [vR 23, vI ((sU σ 33 x6.toNatClampNeg (σ 26 ((((60 * x1) + x3) + x6).toNatClampNeg))) 33 x6.toNatClampNeg)] (sU σ 33 x6.toNatClampNeg (σ 26 ((((60 * x1) + x3) + x6).toNatClampNeg))) (qI (fun r2 σ3 => ((¬ r2 = 0 → VM g (d + 1) M_X5_layVisits (qI F) 36 [(0, vR 23), (1, vI x1), (2, vI x2), (3, vI x3), (4, vI x4), (5, vI x5), (6, vI (x6 + 1))] [] σ3) ∧ (r2 = 0 → F (-1) σ3)))))))))) : VM g (d + 1) M_X5_layVisits (qI F) 36 [(0, vR 23), (1, vI x1), (2, vI x2), (3, vI x3), (4, vI x4), (5, vI x5), (6, vI x6)] [] σ := by
  refine VE_iload 6 dX5_layVisits_36 (k := ?_)
  refine VE_iload 4 dX5_layVisits_38 (k := ?_)
  refine VE_icmp_ge 86 dX5_layVisits_40 (fun c1 => ?_) (fun c1 => ?_)
  · refine VE_aload_n 0 dX5_layVisits_86 (k := ?_)
    refine VE_iload 4 dX5_layVisits_87 (k := ?_)
    refine VE_put dX5_layVisits_89 fl_X5_113 ?_
    refine VE_iconst 0 dX5_layVisits_92 (k := ?_)
    exact VM_iret dX5_layVisits_93 (h.1 c1)
  · refine VE_aload_n 0 dX5_layVisits_43 (k := ?_)
    refine VE_getR 33 dX5_layVisits_44 fl_X5_37 ?_
    refine VE_iload 6 dX5_layVisits_47 (k := ?_)
    refine VE_aload_n 0 dX5_layVisits_49 (k := ?_)
    refine VE_getR 26 dX5_layVisits_50 fl_X5_16 ?_
    refine VE_bipush 60 dX5_layVisits_53 (k := ?_)
    refine VE_iload_n 1 dX5_layVisits_55 (k := ?_)
    refine VE_imul dX5_layVisits_56 ?_
    refine VE_iload_n 3 dX5_layVisits_57 (k := ?_)
    refine VE_iadd dX5_layVisits_58 ?_
    refine VE_iload 6 dX5_layVisits_59 (k := ?_)
    refine VE_iadd dX5_layVisits_61 ?_
    refine VE_iald dX5_layVisits_62 (h.2 c1).1 ?_
    refine VE_iast dX5_layVisits_63 (h.2 c1).2.1 ?_
    refine VE_aload_n 0 dX5_layVisits_64 (k := ?_)
    refine VE_aload_n 0 dX5_layVisits_65 (k := ?_)
    refine VE_getR 33 dX5_layVisits_66 fl_X5_37 ?_
    refine VE_iload 6 dX5_layVisits_69 (k := ?_)
    refine VE_iald dX5_layVisits_71 (h.2 c1).2.1 ?_
    refine VE_cVi [vI ((sU σ 33 x6.toNatClampNeg (σ 26 ((((60 * x1) + x3) + x6).toNatClampNeg))) 33 x6.toNatClampNeg)] dX5_layVisits_72 ml_X5_100 (h.2 c1).2.2 (fun r2 σ3 h4 => ?_) (rok_D d)
    refine VE_if_ne 80 dX5_layVisits_75 (fun c5 => ?_) (fun c5 => ?_)
    · refine VE_iinc 6 (x6 + 1) (ls' := [(6, vI (x6 + 1)), (0, vR 23), (1, vI x1), (2, vI x2), (3, vI x3), (4, vI x4), (5, vI x5)]) dX5_layVisits_80 ?_
      refine VE_goto 36 dX5_layVisits_83 ?_
      exact VE_sub [1, 2, 3, 4, 5, 6, 0] rfl (h4.1 c5)
    · refine VE_iconst (-1) dX5_layVisits_78 (k := ?_)
      exact VM_iret dX5_layVisits_79 (h4.2 c5)
theorem dX5_isRow_0 : decode cX5_isRow 0 = .ok (.iload_n 0, 1) := by decide +kernel
theorem dX5_isRow_1 : decode cX5_isRow 1 = .ok (.invokestatic 69, 3) := by decide +kernel
theorem dX5_isRow_4 : decode cX5_isRow 4 = .ok (.ifCond .eq 17, 3) := by decide +kernel
theorem dX5_isRow_7 : decode cX5_isRow 7 = .ok (.iload_n 1, 1) := by decide +kernel
theorem dX5_isRow_8 : decode cX5_isRow 8 = .ok (.iconst 0, 1) := by decide +kernel
theorem dX5_isRow_9 : decode cX5_isRow 9 = .ok (.bipush 20, 2) := by decide +kernel
theorem dX5_isRow_11 : decode cX5_isRow 11 = .ok (.invokestatic 55, 3) := by decide +kernel
theorem dX5_isRow_14 : decode cX5_isRow 14 = .ok (.ifCond .eq 7, 3) := by decide +kernel
theorem dX5_isRow_17 : decode cX5_isRow 17 = .ok (.iconst 1, 1) := by decide +kernel
theorem dX5_isRow_18 : decode cX5_isRow 18 = .ok (.goto 4, 3) := by decide +kernel
theorem dX5_isRow_21 : decode cX5_isRow 21 = .ok (.iconst 0, 1) := by decide +kernel
theorem dX5_isRow_22 : decode cX5_isRow 22 = .ok (.ireturn, 1) := by decide +kernel
set_option maxRecDepth 20000 in
theorem S_X5_isRow_0 {g : GG} {d : Nat} {F : Int32 → St → Prop} (a1 : Int32) (a2 : Int32) (σ : St) (h : (ME g d M_X5_isSort [vI a1] σ (qI (fun r1 σ2 => ((r1 = 0 → F 0 σ2) ∧ (¬ r1 = 0 → (ME g d M_X5_within [vI a2, vI 0, vI 20] σ2 (qI (fun r5 σ6 => ((r5 = 0 → F 0 σ6) ∧ (¬ r5 = 0 → F 1 σ6))))))))))) : VM g (d + 1) M_X5_isRow (qI F) 0 [(0, vI a1), (1, vI a2)] [] σ := by
  refine VE_iload_n 0 dX5_isRow_0 (k := ?_)
  refine VE_cSi [vI a1] dX5_isRow_1 ml_X5_69 h (fun r1 σ2 h3 => ?_) (rok_D d)
  refine VE_if_eq 21 dX5_isRow_4 (fun c4 => ?_) (fun c4 => ?_)
  · refine VE_iconst 0 dX5_isRow_21 (k := ?_)
    exact VM_zret dX5_isRow_22 (h3.1 c4) (by decide)
  · refine VE_iload_n 1 dX5_isRow_7 (k := ?_)
    refine VE_iconst 0 dX5_isRow_8 (k := ?_)
    refine VE_bipush 20 dX5_isRow_9 (k := ?_)
    refine VE_cSi [vI a2, vI 0, vI 20] dX5_isRow_11 ml_X5_55 (h3.2 c4) (fun r5 σ6 h7 => ?_) (rok_D d)
    refine VE_if_eq 21 dX5_isRow_14 (fun c8 => ?_) (fun c8 => ?_)
    · refine VE_iconst 0 dX5_isRow_21 (k := ?_)
      exact VM_zret dX5_isRow_22 (h7.1 c8) (by decide)
    · refine VE_iconst 1 dX5_isRow_17 (k := ?_)
      refine VE_goto 22 dX5_isRow_18 ?_
      exact VM_zret dX5_isRow_22 (h7.2 c8) (by decide)
theorem dX5_go_0 : decode cX5_go 0 = .ok (.aload_n 0, 1) := by decide +kernel
theorem dX5_go_1 : decode cX5_go 1 = .ok (.invokevirtual 116, 3) := by decide +kernel
theorem dX5_go_4 : decode cX5_go 4 = .ok (.iconst 0, 1) := by decide +kernel
theorem dX5_go_5 : decode cX5_go 5 = .ok (.istore_n 1, 1) := by decide +kernel
theorem dX5_go_6 : decode cX5_go 6 = .ok (.iload_n 1, 1) := by decide +kernel
theorem dX5_go_7 : decode cX5_go 7 = .ok (.aload_n 0, 1) := by decide +kernel
theorem dX5_go_8 : decode cX5_go 8 = .ok (.getfield 113, 3) := by decide +kernel
theorem dX5_go_11 : decode cX5_go 11 = .ok (.if_icmp .ge 24, 3) := by decide +kernel
theorem dX5_go_14 : decode cX5_go 14 = .ok (.aload_n 0, 1) := by decide +kernel
theorem dX5_go_15 : decode cX5_go 15 = .ok (.aload_n 0, 1) := by decide +kernel
theorem dX5_go_16 : decode cX5_go 16 = .ok (.getfield 37, 3) := by decide +kernel
theorem dX5_go_19 : decode cX5_go 19 = .ok (.iload_n 1, 1) := by decide +kernel
theorem dX5_go_20 : decode cX5_go 20 = .ok (.iaload, 1) := by decide +kernel
theorem dX5_go_21 : decode cX5_go 21 = .ok (.invokevirtual 119, 3) := by decide +kernel
theorem dX5_go_24 : decode cX5_go 24 = .ok (.ifCond .ne 5, 3) := by decide +kernel
theorem dX5_go_27 : decode cX5_go 27 = .ok (.iload_n 1, 1) := by decide +kernel
theorem dX5_go_28 : decode cX5_go 28 = .ok (.ireturn, 1) := by decide +kernel
theorem dX5_go_29 : decode cX5_go 29 = .ok (.iinc 1 1, 3) := by decide +kernel
theorem dX5_go_32 : decode cX5_go 32 = .ok (.goto (-26), 3) := by decide +kernel
theorem dX5_go_35 : decode cX5_go 35 = .ok (.bipush (-9), 2) := by decide +kernel
theorem dX5_go_37 : decode cX5_go 37 = .ok (.ireturn, 1) := by decide +kernel
set_option maxRecDepth 20000 in
theorem S_X5_go_0 {g : GG} {d : Nat} {F : Int32 → St → Prop}  (σ : St) (h : (ME g d M_X5_begin [vR 23] σ (qV (fun σ2 => VM g (d + 1) M_X5_go (qI F) 6 [(0, vR 23), (1, vI 0)] [] σ2)))) : VM g (d + 1) M_X5_go (qI F) 0 [(0, vR 23)] [] σ := by
  refine VE_aload_n 0 dX5_go_0 (k := ?_)
  refine VE_cVv [] dX5_go_1 ml_X5_116 h (fun σ2 h3 => ?_) (rok_D d)
  refine VE_iconst 0 dX5_go_4 (k := ?_)
  refine VE_istore_n (ls' := [(1, vI 0), (0, vR 23)]) dX5_go_5 ?_
  exact VE_sub [1, 0] rfl h3
set_option maxRecDepth 20000 in
theorem S_X5_go_6 {g : GG} {d : Nat} {F : Int32 → St → Prop} (x1 : Int32) (σ : St) (h : (((σ 23 15) ≤ x1 → F (-9) σ) ∧ (¬ (σ 23 15) ≤ x1 → (vp_in x1 20 ∧ (ME g d M_X5_visit [vR 23, vI (σ 33 x1.toNatClampNeg)] σ (qI (fun r2 σ3 => ((¬ r2 = 0 → VM g (d + 1) M_X5_go (qI F) 6 [(0, vR 23), (1, vI (x1 + 1))] [] σ3) ∧ (r2 = 0 → F x1 σ3))))))))) : VM g (d + 1) M_X5_go (qI F) 6 [(0, vR 23), (1, vI x1)] [] σ := by
  refine VE_iload_n 1 dX5_go_6 (k := ?_)
  refine VE_aload_n 0 dX5_go_7 (k := ?_)
  refine VE_getI dX5_go_8 fl_X5_113 ?_
  refine VE_icmp_ge 35 dX5_go_11 (fun c1 => ?_) (fun c1 => ?_)
  · refine VE_bipush (-9) dX5_go_35 (k := ?_)
    exact VM_iret dX5_go_37 (h.1 c1)
  · refine VE_aload_n 0 dX5_go_14 (k := ?_)
    refine VE_aload_n 0 dX5_go_15 (k := ?_)
    refine VE_getR 33 dX5_go_16 fl_X5_37 ?_
    refine VE_iload_n 1 dX5_go_19 (k := ?_)
    refine VE_iald dX5_go_20 (h.2 c1).1 ?_
    refine VE_cVi [vI (σ 33 x1.toNatClampNeg)] dX5_go_21 ml_X5_119 (h.2 c1).2 (fun r2 σ3 h4 => ?_) (rok_D d)
    refine VE_if_ne 29 dX5_go_24 (fun c5 => ?_) (fun c5 => ?_)
    · refine VE_iinc 1 (x1 + 1) (ls' := [(1, vI (x1 + 1)), (0, vR 23)]) dX5_go_29 ?_
      refine VE_goto 6 dX5_go_32 ?_
      exact VE_sub [1, 0] rfl (h4.1 c5)
    · refine VE_iload_n 1 dX5_go_27 (k := ?_)
      exact VM_iret dX5_go_28 (h4.2 c5)
theorem dX5_isWhat_0 : decode cX5_isWhat 0 = .ok (.iload_n 0, 1) := by decide +kernel
theorem dX5_isWhat_1 : decode cX5_isWhat 1 = .ok (.iconst 0, 1) := by decide +kernel
theorem dX5_isWhat_2 : decode cX5_isWhat 2 = .ok (.iconst 4, 1) := by decide +kernel
theorem dX5_isWhat_3 : decode cX5_isWhat 3 = .ok (.invokestatic 55, 3) := by decide +kernel
theorem dX5_isWhat_6 : decode cX5_isWhat 6 = .ok (.ifCond .ne 36, 3) := by decide +kernel
theorem dX5_isWhat_9 : decode cX5_isWhat 9 = .ok (.iload_n 0, 1) := by decide +kernel
theorem dX5_isWhat_10 : decode cX5_isWhat 10 = .ok (.bipush 10, 2) := by decide +kernel
theorem dX5_isWhat_12 : decode cX5_isWhat 12 = .ok (.bipush 14, 2) := by decide +kernel
theorem dX5_isWhat_14 : decode cX5_isWhat 14 = .ok (.invokestatic 55, 3) := by decide +kernel
theorem dX5_isWhat_17 : decode cX5_isWhat 17 = .ok (.ifCond .ne 25, 3) := by decide +kernel
theorem dX5_isWhat_20 : decode cX5_isWhat 20 = .ok (.iload_n 0, 1) := by decide +kernel
theorem dX5_isWhat_21 : decode cX5_isWhat 21 = .ok (.bipush 20, 2) := by decide +kernel
theorem dX5_isWhat_23 : decode cX5_isWhat 23 = .ok (.bipush 24, 2) := by decide +kernel
theorem dX5_isWhat_25 : decode cX5_isWhat 25 = .ok (.invokestatic 55, 3) := by decide +kernel
theorem dX5_isWhat_28 : decode cX5_isWhat 28 = .ok (.ifCond .ne 14, 3) := by decide +kernel
theorem dX5_isWhat_31 : decode cX5_isWhat 31 = .ok (.iload_n 0, 1) := by decide +kernel
theorem dX5_isWhat_32 : decode cX5_isWhat 32 = .ok (.bipush 30, 2) := by decide +kernel
theorem dX5_isWhat_34 : decode cX5_isWhat 34 = .ok (.bipush 34, 2) := by decide +kernel
theorem dX5_isWhat_36 : decode cX5_isWhat 36 = .ok (.invokestatic 55, 3) := by decide +kernel
theorem dX5_isWhat_39 : decode cX5_isWhat 39 = .ok (.ifCond .eq 7, 3) := by decide +kernel
theorem dX5_isWhat_42 : decode cX5_isWhat 42 = .ok (.iconst 1, 1) := by decide +kernel
theorem dX5_isWhat_43 : decode cX5_isWhat 43 = .ok (.goto 4, 3) := by decide +kernel
theorem dX5_isWhat_46 : decode cX5_isWhat 46 = .ok (.iconst 0, 1) := by decide +kernel
theorem dX5_isWhat_47 : decode cX5_isWhat 47 = .ok (.ireturn, 1) := by decide +kernel
set_option maxRecDepth 20000 in
theorem S_X5_isWhat_0 {g : GG} {d : Nat} {F : Int32 → St → Prop} (a1 : Int32) (σ : St) (h : (ME g d M_X5_within [vI a1, vI 0, vI 4] σ (qI (fun r1 σ2 => ((¬ r1 = 0 → F 1 σ2) ∧ (r1 = 0 → (ME g d M_X5_within [vI a1, vI 10, vI 14] σ2 (qI (fun r5 σ6 => ((¬ r5 = 0 → F 1 σ6) ∧ (r5 = 0 → (ME g d M_X5_within [vI a1, vI 20, vI 24] σ6 (qI (fun r9 σ10 => ((¬ r9 = 0 → F 1 σ10) ∧ (r9 = 0 → (ME g d M_X5_within [vI a1, vI 30, vI 34] σ10 (qI (fun r13 σ14 => ((r13 = 0 → F 0 σ14) ∧ (¬ r13 = 0 → F 1 σ14))))))))))))))))))))) : VM g (d + 1) M_X5_isWhat (qI F) 0 [(0, vI a1)] [] σ := by
  refine VE_iload_n 0 dX5_isWhat_0 (k := ?_)
  refine VE_iconst 0 dX5_isWhat_1 (k := ?_)
  refine VE_iconst 4 dX5_isWhat_2 (k := ?_)
  refine VE_cSi [vI a1, vI 0, vI 4] dX5_isWhat_3 ml_X5_55 h (fun r1 σ2 h3 => ?_) (rok_D d)
  refine VE_if_ne 42 dX5_isWhat_6 (fun c4 => ?_) (fun c4 => ?_)
  · refine VE_iconst 1 dX5_isWhat_42 (k := ?_)
    refine VE_goto 47 dX5_isWhat_43 ?_
    exact VM_zret dX5_isWhat_47 (h3.1 c4) (by decide)
  · refine VE_iload_n 0 dX5_isWhat_9 (k := ?_)
    refine VE_bipush 10 dX5_isWhat_10 (k := ?_)
    refine VE_bipush 14 dX5_isWhat_12 (k := ?_)
    refine VE_cSi [vI a1, vI 10, vI 14] dX5_isWhat_14 ml_X5_55 (h3.2 c4) (fun r5 σ6 h7 => ?_) (rok_D d)
    refine VE_if_ne 42 dX5_isWhat_17 (fun c8 => ?_) (fun c8 => ?_)
    · refine VE_iconst 1 dX5_isWhat_42 (k := ?_)
      refine VE_goto 47 dX5_isWhat_43 ?_
      exact VM_zret dX5_isWhat_47 (h7.1 c8) (by decide)
    · refine VE_iload_n 0 dX5_isWhat_20 (k := ?_)
      refine VE_bipush 20 dX5_isWhat_21 (k := ?_)
      refine VE_bipush 24 dX5_isWhat_23 (k := ?_)
      refine VE_cSi [vI a1, vI 20, vI 24] dX5_isWhat_25 ml_X5_55 (h7.2 c8) (fun r9 σ10 h11 => ?_) (rok_D d)
      refine VE_if_ne 42 dX5_isWhat_28 (fun c12 => ?_) (fun c12 => ?_)
      · refine VE_iconst 1 dX5_isWhat_42 (k := ?_)
        refine VE_goto 47 dX5_isWhat_43 ?_
        exact VM_zret dX5_isWhat_47 (h11.1 c12) (by decide)
      · refine VE_iload_n 0 dX5_isWhat_31 (k := ?_)
        refine VE_bipush 30 dX5_isWhat_32 (k := ?_)
        refine VE_bipush 34 dX5_isWhat_34 (k := ?_)
        refine VE_cSi [vI a1, vI 30, vI 34] dX5_isWhat_36 ml_X5_55 (h11.2 c12) (fun r13 σ14 h15 => ?_) (rok_D d)
        refine VE_if_eq 46 dX5_isWhat_39 (fun c16 => ?_) (fun c16 => ?_)
        · refine VE_iconst 0 dX5_isWhat_46 (k := ?_)
          exact VM_zret dX5_isWhat_47 (h15.1 c16) (by decide)
        · refine VE_iconst 1 dX5_isWhat_42 (k := ?_)
          refine VE_goto 47 dX5_isWhat_43 ?_
          exact VM_zret dX5_isWhat_47 (h15.2 c16) (by decide)
theorem dX5_visits_0 : decode cX5_visits 0 = .ok (.aload_n 0, 1) := by decide +kernel
theorem dX5_visits_1 : decode cX5_visits 1 = .ok (.iconst 0, 1) := by decide +kernel
theorem dX5_visits_2 : decode cX5_visits 2 = .ok (.putfield 49, 3) := by decide +kernel
theorem dX5_visits_5 : decode cX5_visits 5 = .ok (.iload_n 1, 1) := by decide +kernel
theorem dX5_visits_6 : decode cX5_visits 6 = .ok (.invokestatic 65, 3) := by decide +kernel
theorem dX5_visits_9 : decode cX5_visits 9 = .ok (.ifCond .ne 5, 3) := by decide +kernel
theorem dX5_visits_12 : decode cX5_visits 12 = .ok (.iconst (-1), 1) := by decide +kernel
theorem dX5_visits_13 : decode cX5_visits 13 = .ok (.ireturn, 1) := by decide +kernel
theorem dX5_visits_14 : decode cX5_visits 14 = .ok (.iload_n 2, 1) := by decide +kernel
theorem dX5_visits_15 : decode cX5_visits 15 = .ok (.iload 4, 2) := by decide +kernel
theorem dX5_visits_17 : decode cX5_visits 17 = .ok (.invokestatic 122, 3) := by decide +kernel
theorem dX5_visits_20 : decode cX5_visits 20 = .ok (.ifCond .eq 11, 3) := by decide +kernel
theorem dX5_visits_23 : decode cX5_visits 23 = .ok (.iload 5, 2) := by decide +kernel
theorem dX5_visits_25 : decode cX5_visits 25 = .ok (.invokestatic 125, 3) := by decide +kernel
theorem dX5_visits_28 : decode cX5_visits 28 = .ok (.ifCond .ne 6, 3) := by decide +kernel
theorem dX5_visits_31 : decode cX5_visits 31 = .ok (.bipush (-2), 2) := by decide +kernel
theorem dX5_visits_33 : decode cX5_visits 33 = .ok (.ireturn, 1) := by decide +kernel
theorem dX5_visits_34 : decode cX5_visits 34 = .ok (.aload_n 0, 1) := by decide +kernel
theorem dX5_visits_35 : decode cX5_visits 35 = .ok (.iload_n 1, 1) := by decide +kernel
theorem dX5_visits_36 : decode cX5_visits 36 = .ok (.iload_n 2, 1) := by decide +kernel
theorem dX5_visits_37 : decode cX5_visits 37 = .ok (.iload_n 3, 1) := by decide +kernel
theorem dX5_visits_38 : decode cX5_visits 38 = .ok (.iload 4, 2) := by decide +kernel
theorem dX5_visits_40 : decode cX5_visits 40 = .ok (.invokevirtual 128, 3) := by decide +kernel
theorem dX5_visits_43 : decode cX5_visits 43 = .ok (.istore 6, 2) := by decide +kernel
theorem dX5_visits_45 : decode cX5_visits 45 = .ok (.iload 6, 2) := by decide +kernel
theorem dX5_visits_47 : decode cX5_visits 47 = .ok (.ifCond .eq 6, 3) := by decide +kernel
theorem dX5_visits_50 : decode cX5_visits 50 = .ok (.iload 6, 2) := by decide +kernel
theorem dX5_visits_52 : decode cX5_visits 52 = .ok (.ireturn, 1) := by decide +kernel
theorem dX5_visits_53 : decode cX5_visits 53 = .ok (.aload_n 0, 1) := by decide +kernel
theorem dX5_visits_54 : decode cX5_visits 54 = .ok (.invokevirtual 131, 3) := by decide +kernel
theorem dX5_visits_57 : decode cX5_visits 57 = .ok (.istore 7, 2) := by decide +kernel
theorem dX5_visits_59 : decode cX5_visits 59 = .ok (.iload 5, 2) := by decide +kernel
theorem dX5_visits_61 : decode cX5_visits 61 = .ok (.iconst 1, 1) := by decide +kernel
theorem dX5_visits_62 : decode cX5_visits 62 = .ok (.if_icmp .ne 6, 3) := by decide +kernel
theorem dX5_visits_65 : decode cX5_visits 65 = .ok (.iload 7, 2) := by decide +kernel
theorem dX5_visits_67 : decode cX5_visits 67 = .ok (.ireturn, 1) := by decide +kernel
theorem dX5_visits_68 : decode cX5_visits 68 = .ok (.iload 7, 2) := by decide +kernel
theorem dX5_visits_70 : decode cX5_visits 70 = .ok (.bipush (-9), 2) := by decide +kernel
theorem dX5_visits_72 : decode cX5_visits 72 = .ok (.if_icmp .ne 12, 3) := by decide +kernel
theorem dX5_visits_75 : decode cX5_visits 75 = .ok (.aload_n 0, 1) := by decide +kernel
theorem dX5_visits_76 : decode cX5_visits 76 = .ok (.iload 5, 2) := by decide +kernel
theorem dX5_visits_78 : decode cX5_visits 78 = .ok (.invokevirtual 135, 3) := by decide +kernel
theorem dX5_visits_81 : decode cX5_visits 81 = .ok (.goto 8, 3) := by decide +kernel
theorem dX5_visits_84 : decode cX5_visits 84 = .ok (.bipush (-100), 2) := by decide +kernel
theorem dX5_visits_86 : decode cX5_visits 86 = .ok (.iload 7, 2) := by decide +kernel
theorem dX5_visits_88 : decode cX5_visits 88 = .ok (.isub, 1) := by decide +kernel
theorem dX5_visits_89 : decode cX5_visits 89 = .ok (.ireturn, 1) := by decide +kernel
set_option maxRecDepth 20000 in
theorem S_X5_visits_0 {g : GG} {d : Nat} {F : Int32 → St → Prop} (a1 : Int32) (a2 : Int32) (a3 : Int32) (a4 : Int32) (a5 : Int32) (σ : St) (h : (ME g d M_X5_isSheet [vI a1] (sU σ 23 0 0) (qI (fun r1 σ2 => ((¬ r1 = 0 → (ME g d M_X5_isRow [vI a2, vI a4] σ2 (qI (fun r5 σ6 => ((r5 = 0 → F (-2) σ6) ∧ (¬ r5 = 0 → (ME g d M_X5_isWhat [vI a5] σ6 (qI (fun r9 σ10 => ((¬ r9 = 0 → (ME g d M_X5_layVisits [vR 23, vI a1, vI a2, vI a3, vI a4] σ10 (qI (fun r13 σ14 => ((r13 = 0 → (ME g d M_X5_go [vR 23] σ14 (qI (fun r17 σ18 => ((¬ a5 = 1 → ((¬ r17 = (-9) → F ((-100) - r17) σ18) ∧ (r17 = (-9) → (ME g d M_X5_tellVisits [vR 23, vI a5] σ18 (qI (fun r22 σ23 => F r22 σ23)))))) ∧ (a5 = 1 → F r17 σ18)))))) ∧ (¬ r13 = 0 → F r13 σ14)))))) ∧ (r9 = 0 → F (-2) σ10))))))))))) ∧ (r1 = 0 → F (-1) σ2)))))) : VM g (d + 1) M_X5_visits (qI F) 0 [(0, vR 23), (1, vI a1), (2, vI a2), (3, vI a3), (4, vI a4), (5, vI a5)] [] σ := by
  refine VE_aload_n 0 dX5_visits_0 (k := ?_)
  refine VE_iconst 0 dX5_visits_1 (k := ?_)
  refine VE_put dX5_visits_2 fl_X5_49 ?_
  refine VE_iload_n 1 dX5_visits_5 (k := ?_)
  refine VE_cSi [vI a1] dX5_visits_6 ml_X5_65 h (fun r1 σ2 h3 => ?_) (rok_D d)
  refine VE_if_ne 14 dX5_visits_9 (fun c4 => ?_) (fun c4 => ?_)
  · refine VE_iload_n 2 dX5_visits_14 (k := ?_)
    refine VE_iload 4 dX5_visits_15 (k := ?_)
    refine VE_cSi [vI a2, vI a4] dX5_visits_17 ml_X5_122 (h3.1 c4) (fun r5 σ6 h7 => ?_) (rok_D d)
    refine VE_if_eq 31 dX5_visits_20 (fun c8 => ?_) (fun c8 => ?_)
    · refine VE_bipush (-2) dX5_visits_31 (k := ?_)
      exact VM_iret dX5_visits_33 (h7.1 c8)
    · refine VE_iload 5 dX5_visits_23 (k := ?_)
      refine VE_cSi [vI a5] dX5_visits_25 ml_X5_125 (h7.2 c8) (fun r9 σ10 h11 => ?_) (rok_D d)
      refine VE_if_ne 34 dX5_visits_28 (fun c12 => ?_) (fun c12 => ?_)
      · refine VE_aload_n 0 dX5_visits_34 (k := ?_)
        refine VE_iload_n 1 dX5_visits_35 (k := ?_)
        refine VE_iload_n 2 dX5_visits_36 (k := ?_)
        refine VE_iload_n 3 dX5_visits_37 (k := ?_)
        refine VE_iload 4 dX5_visits_38 (k := ?_)
        refine VE_cVi [vI a1, vI a2, vI a3, vI a4] dX5_visits_40 ml_X5_128 (h11.1 c12) (fun r13 σ14 h15 => ?_) (rok_D d)
        refine VE_istore (ls' := [(6, vI r13), (0, vR 23), (1, vI a1), (2, vI a2), (3, vI a3), (4, vI a4), (5, vI a5)]) dX5_visits_43 ?_
        refine VE_iload 0 dX5_visits_45 (k := ?_)
        refine VE_if_eq 53 dX5_visits_47 (fun c16 => ?_) (fun c16 => ?_)
        · refine VE_aload_n 1 dX5_visits_53 (k := ?_)
          refine VE_cVi [] dX5_visits_54 ml_X5_131 (h15.1 c16) (fun r17 σ18 h19 => ?_) (rok_D d)
          refine VE_istore (ls' := [(7, vI r17), (6, vI r13), (0, vR 23), (1, vI a1), (2, vI a2), (3, vI a3), (4, vI a4), (5, vI a5)]) dX5_visits_57 ?_
          refine VE_iload 7 dX5_visits_59 (k := ?_)
          refine VE_iconst 1 dX5_visits_61 (k := ?_)
          refine VE_icmp_ne 68 dX5_visits_62 (fun c20 => ?_) (fun c20 => ?_)
          · refine VE_iload 0 dX5_visits_68 (k := ?_)
            refine VE_bipush (-9) dX5_visits_70 (k := ?_)
            refine VE_icmp_ne 84 dX5_visits_72 (fun c21 => ?_) (fun c21 => ?_)
            · refine VE_bipush (-100) dX5_visits_84 (k := ?_)
              refine VE_iload 0 dX5_visits_86 (k := ?_)
              refine VE_isub dX5_visits_88 ?_
              exact VM_iret dX5_visits_89 ((h19.1 c20).1 c21)
            · refine VE_aload_n 2 dX5_visits_75 (k := ?_)
              refine VE_iload 7 dX5_visits_76 (k := ?_)
              refine VE_cVi [vI a5] dX5_visits_78 ml_X5_135 ((h19.1 c20).2 c21) (fun r22 σ23 h24 => ?_) (rok_D d)
              refine VE_goto 89 dX5_visits_81 ?_
              exact VM_iret dX5_visits_89 h24
          · refine VE_iload 0 dX5_visits_65 (k := ?_)
            exact VM_iret dX5_visits_67 (h19.2 c20)
        · refine VE_iload 0 dX5_visits_50 (k := ?_)
          exact VM_iret dX5_visits_52 (h15.2 c16)
      · refine VE_bipush (-2) dX5_visits_31 (k := ?_)
        exact VM_iret dX5_visits_33 (h11.2 c12)
  · refine VE_iconst (-1) dX5_visits_12 (k := ?_)
    exact VM_iret dX5_visits_13 (h3.2 c4)
theorem dX5_tellVisits_0 : decode cX5_tellVisits 0 = .ok (.iload_n 1, 1) := by decide +kernel
theorem dX5_tellVisits_1 : decode cX5_tellVisits 1 = .ok (.tableswitch 55 0 4 #[35, 55, 40, 45, 50], 35) := by decide +kernel
theorem dX5_tellVisits_36 : decode cX5_tellVisits 36 = .ok (.aload_n 0, 1) := by decide +kernel
theorem dX5_tellVisits_37 : decode cX5_tellVisits 37 = .ok (.invokevirtual 138, 3) := by decide +kernel
theorem dX5_tellVisits_40 : decode cX5_tellVisits 40 = .ok (.ireturn, 1) := by decide +kernel
theorem dX5_tellVisits_41 : decode cX5_tellVisits 41 = .ok (.aload_n 0, 1) := by decide +kernel
theorem dX5_tellVisits_42 : decode cX5_tellVisits 42 = .ok (.invokevirtual 141, 3) := by decide +kernel
theorem dX5_tellVisits_45 : decode cX5_tellVisits 45 = .ok (.ireturn, 1) := by decide +kernel
theorem dX5_tellVisits_46 : decode cX5_tellVisits 46 = .ok (.aload_n 0, 1) := by decide +kernel
theorem dX5_tellVisits_47 : decode cX5_tellVisits 47 = .ok (.getfield 106, 3) := by decide +kernel
theorem dX5_tellVisits_50 : decode cX5_tellVisits 50 = .ok (.ireturn, 1) := by decide +kernel
theorem dX5_tellVisits_51 : decode cX5_tellVisits 51 = .ok (.aload_n 0, 1) := by decide +kernel
theorem dX5_tellVisits_52 : decode cX5_tellVisits 52 = .ok (.invokevirtual 144, 3) := by decide +kernel
theorem dX5_tellVisits_55 : decode cX5_tellVisits 55 = .ok (.ireturn, 1) := by decide +kernel
theorem dX5_tellVisits_56 : decode cX5_tellVisits 56 = .ok (.iload_n 1, 1) := by decide +kernel
theorem dX5_tellVisits_57 : decode cX5_tellVisits 57 = .ok (.bipush 10, 2) := by decide +kernel
theorem dX5_tellVisits_59 : decode cX5_tellVisits 59 = .ok (.irem, 1) := by decide +kernel
theorem dX5_tellVisits_60 : decode cX5_tellVisits 60 = .ok (.istore_n 2, 1) := by decide +kernel
theorem dX5_tellVisits_61 : decode cX5_tellVisits 61 = .ok (.aload_n 0, 1) := by decide +kernel
theorem dX5_tellVisits_62 : decode cX5_tellVisits 62 = .ok (.iload_n 2, 1) := by decide +kernel
theorem dX5_tellVisits_63 : decode cX5_tellVisits 63 = .ok (.invokevirtual 100, 3) := by decide +kernel
theorem dX5_tellVisits_66 : decode cX5_tellVisits 66 = .ok (.ifCond .ne 6, 3) := by decide +kernel
theorem dX5_tellVisits_69 : decode cX5_tellVisits 69 = .ok (.bipush (-9), 2) := by decide +kernel
theorem dX5_tellVisits_71 : decode cX5_tellVisits 71 = .ok (.ireturn, 1) := by decide +kernel
theorem dX5_tellVisits_72 : decode cX5_tellVisits 72 = .ok (.iload_n 1, 1) := by decide +kernel
theorem dX5_tellVisits_73 : decode cX5_tellVisits 73 = .ok (.bipush 20, 2) := by decide +kernel
theorem dX5_tellVisits_75 : decode cX5_tellVisits 75 = .ok (.if_icmp .ge 12, 3) := by decide +kernel
theorem dX5_tellVisits_78 : decode cX5_tellVisits 78 = .ok (.aload_n 0, 1) := by decide +kernel
theorem dX5_tellVisits_79 : decode cX5_tellVisits 79 = .ok (.getfield 31, 3) := by decide +kernel
theorem dX5_tellVisits_82 : decode cX5_tellVisits 82 = .ok (.iload_n 2, 1) := by decide +kernel
theorem dX5_tellVisits_83 : decode cX5_tellVisits 83 = .ok (.iaload, 1) := by decide +kernel
theorem dX5_tellVisits_84 : decode cX5_tellVisits 84 = .ok (.goto 23, 3) := by decide +kernel
theorem dX5_tellVisits_87 : decode cX5_tellVisits 87 = .ok (.iload_n 1, 1) := by decide +kernel
theorem dX5_tellVisits_88 : decode cX5_tellVisits 88 = .ok (.bipush 30, 2) := by decide +kernel
theorem dX5_tellVisits_90 : decode cX5_tellVisits 90 = .ok (.if_icmp .ge 12, 3) := by decide +kernel
theorem dX5_tellVisits_93 : decode cX5_tellVisits 93 = .ok (.aload_n 0, 1) := by decide +kernel
theorem dX5_tellVisits_94 : decode cX5_tellVisits 94 = .ok (.getfield 34, 3) := by decide +kernel
theorem dX5_tellVisits_97 : decode cX5_tellVisits 97 = .ok (.iload_n 2, 1) := by decide +kernel
theorem dX5_tellVisits_98 : decode cX5_tellVisits 98 = .ok (.iaload, 1) := by decide +kernel
theorem dX5_tellVisits_99 : decode cX5_tellVisits 99 = .ok (.goto 8, 3) := by decide +kernel
theorem dX5_tellVisits_102 : decode cX5_tellVisits 102 = .ok (.aload_n 0, 1) := by decide +kernel
theorem dX5_tellVisits_103 : decode cX5_tellVisits 103 = .ok (.iload_n 2, 1) := by decide +kernel
theorem dX5_tellVisits_104 : decode cX5_tellVisits 104 = .ok (.invokevirtual 147, 3) := by decide +kernel
theorem dX5_tellVisits_107 : decode cX5_tellVisits 107 = .ok (.ireturn, 1) := by decide +kernel
set_option maxRecDepth 20000 in
theorem S_X5_tellVisits_0 {g : GG} {d : Nat} {F : Int32 → St → Prop} (a1 : Int32) (σ : St) (h : ((a1 = 0 → (ME g d M_X5_atHome [vR 23] σ (qI (fun r6 σ7 => F r6 σ7)))) ∧ (¬ a1 = 0 → ((a1 = 1 → (ME g d M_X5_isHead [vR 23, vI (a1 - a1 / 10 * 10)] σ (qI (fun r9 σ10 => ((¬ r9 = 0 → ((20 ≤ a1 → ((30 ≤ a1 → (ME g d M_X5_fooled [vR 23, vI (a1 - a1 / 10 * 10)] σ10 (qI (fun r15 σ16 => F r15 σ16)))) ∧ (¬ 30 ≤ a1 → (vp_in (a1 - a1 / 10 * 10) 5 ∧ F (σ10 32 ((a1 - a1 / 10 * 10).toNatClampNeg)) σ10)))) ∧ (¬ 20 ≤ a1 → (vp_in (a1 - a1 / 10 * 10) 5 ∧ F (σ10 31 ((a1 - a1 / 10 * 10).toNatClampNeg)) σ10)))) ∧ (r9 = 0 → F (-9) σ10)))))) ∧ (¬ a1 = 1 → ((a1 = 2 → (ME g d M_X5_home [vR 23] σ (qI (fun r18 σ19 => F r18 σ19)))) ∧ (¬ a1 = 2 → ((a1 = 3 → F (σ 23 14) σ) ∧ (¬ a1 = 3 → ((a1 = 4 → (ME g d M_X5_worn [vR 23] σ (qI (fun r21 σ22 => F r21 σ22)))) ∧ (¬ a1 = 4 → (ME g d M_X5_isHead [vR 23, vI (a1 - a1 / 10 * 10)] σ (qI (fun r24 σ25 => ((¬ r24 = 0 → ((20 ≤ a1 → ((30 ≤ a1 → (ME g d M_X5_fooled [vR 23, vI (a1 - a1 / 10 * 10)] σ25 (qI (fun r30 σ31 => F r30 σ31)))) ∧ (¬ 30 ≤ a1 → (vp_in (a1 - a1 / 10 * 10) 5 ∧ F (σ25 32 ((a1 - a1 / 10 * 10).toNatClampNeg)) σ25)))) ∧ (¬ 20 ≤ a1 → (vp_in (a1 - a1 / 10 * 10) 5 ∧ F (σ25 31 ((a1 - a1 / 10 * 10).toNatClampNeg)) σ25)))) ∧ (r24 = 0 → F (-9) σ25)))))))))))))))) : VM g (d + 1) M_X5_tellVisits (qI F) 0 [(0, vR 23), (1, vI a1)] [] σ := by
  refine VE_iload_n 1 dX5_tellVisits_0 (k := ?_)
  by_cases c1 : a1 = 0
  · refine VE_tableIn 36 dX5_tellVisits_1 (by rw [c1]; decide) (by rw [c1]; decide) (by rw [c1]; rfl) ?_
    refine VE_aload_n 0 dX5_tellVisits_36 (k := ?_)
    refine VE_cVi [] dX5_tellVisits_37 ml_X5_138 (h.1 c1) (fun r6 σ7 h8 => ?_) (rok_D d)
    exact VM_iret dX5_tellVisits_40 h8
  · by_cases c2 : a1 = 1
    · refine VE_tableIn 56 dX5_tellVisits_1 (by rw [c2]; decide) (by rw [c2]; decide) (by rw [c2]; rfl) ?_
      refine VE_iload_n 1 dX5_tellVisits_56 (k := ?_)
      refine VE_bipush 10 dX5_tellVisits_57 (k := ?_)
      refine VE_irem dX5_tellVisits_59 (by decide) ?_
      refine VE_istore_n (ls' := [(2, vI (a1 - a1 / 10 * 10)), (0, vR 23), (1, vI a1)]) dX5_tellVisits_60 ?_
      refine VE_aload_n 1 dX5_tellVisits_61 (k := ?_)
      refine VE_iload_n 0 dX5_tellVisits_62 (k := ?_)
      refine VE_cVi [vI (a1 - a1 / 10 * 10)] dX5_tellVisits_63 ml_X5_100 ((h.2 c1).1 c2) (fun r9 σ10 h11 => ?_) (rok_D d)
      refine VE_if_ne 72 dX5_tellVisits_66 (fun c12 => ?_) (fun c12 => ?_)
      · refine VE_iload_n 2 dX5_tellVisits_72 (k := ?_)
        refine VE_bipush 20 dX5_tellVisits_73 (k := ?_)
        refine VE_icmp_ge 87 dX5_tellVisits_75 (fun c13 => ?_) (fun c13 => ?_)
        · refine VE_iload_n 2 dX5_tellVisits_87 (k := ?_)
          refine VE_bipush 30 dX5_tellVisits_88 (k := ?_)
          refine VE_icmp_ge 102 dX5_tellVisits_90 (fun c14 => ?_) (fun c14 => ?_)
          · refine VE_aload_n 1 dX5_tellVisits_102 (k := ?_)
            refine VE_iload_n 0 dX5_tellVisits_103 (k := ?_)
            refine VE_cVi [vI (a1 - a1 / 10 * 10)] dX5_tellVisits_104 ml_X5_147 (((h11.1 c12).1 c13).1 c14) (fun r15 σ16 h17 => ?_) (rok_D d)
            exact VM_iret dX5_tellVisits_107 h17
          · refine VE_aload_n 1 dX5_tellVisits_93 (k := ?_)
            refine VE_getR 32 dX5_tellVisits_94 fl_X5_34 ?_
            refine VE_iload_n 0 dX5_tellVisits_97 (k := ?_)
            refine VE_iald dX5_tellVisits_98 (((h11.1 c12).1 c13).2 c14).1 ?_
            refine VE_goto 107 dX5_tellVisits_99 ?_
            exact VM_iret dX5_tellVisits_107 (((h11.1 c12).1 c13).2 c14).2
        · refine VE_aload_n 1 dX5_tellVisits_78 (k := ?_)
          refine VE_getR 31 dX5_tellVisits_79 fl_X5_31 ?_
          refine VE_iload_n 0 dX5_tellVisits_82 (k := ?_)
          refine VE_iald dX5_tellVisits_83 ((h11.1 c12).2 c13).1 ?_
          refine VE_goto 107 dX5_tellVisits_84 ?_
          exact VM_iret dX5_tellVisits_107 ((h11.1 c12).2 c13).2
      · refine VE_bipush (-9) dX5_tellVisits_69 (k := ?_)
        exact VM_iret dX5_tellVisits_71 (h11.2 c12)
    · by_cases c3 : a1 = 2
      · refine VE_tableIn 41 dX5_tellVisits_1 (by rw [c3]; decide) (by rw [c3]; decide) (by rw [c3]; rfl) ?_
        refine VE_aload_n 0 dX5_tellVisits_41 (k := ?_)
        refine VE_cVi [] dX5_tellVisits_42 ml_X5_141 (((h.2 c1).2 c2).1 c3) (fun r18 σ19 h20 => ?_) (rok_D d)
        exact VM_iret dX5_tellVisits_45 h20
      · by_cases c4 : a1 = 3
        · refine VE_tableIn 46 dX5_tellVisits_1 (by rw [c4]; decide) (by rw [c4]; decide) (by rw [c4]; rfl) ?_
          refine VE_aload_n 0 dX5_tellVisits_46 (k := ?_)
          refine VE_getI dX5_tellVisits_47 fl_X5_106 ?_
          exact VM_iret dX5_tellVisits_50 ((((h.2 c1).2 c2).2 c3).1 c4)
        · by_cases c5 : a1 = 4
          · refine VE_tableIn 51 dX5_tellVisits_1 (by rw [c5]; decide) (by rw [c5]; decide) (by rw [c5]; rfl) ?_
            refine VE_aload_n 0 dX5_tellVisits_51 (k := ?_)
            refine VE_cVi [] dX5_tellVisits_52 ml_X5_144 (((((h.2 c1).2 c2).2 c3).2 c4).1 c5) (fun r21 σ22 h23 => ?_) (rok_D d)
            exact VM_iret dX5_tellVisits_55 h23
          · refine VE_tableOut 56 dX5_tellVisits_1 (by have e0 : ¬ a1.toInt = 0 := i32_ne c1; have e1 : ¬ a1.toInt = 1 := i32_ne c2; have e2 : ¬ a1.toInt = 2 := i32_ne c3; have e3 : ¬ a1.toInt = 3 := i32_ne c4; have e4 : ¬ a1.toInt = 4 := i32_ne c5; omega) ?_
            refine VE_iload_n 1 dX5_tellVisits_56 (k := ?_)
            refine VE_bipush 10 dX5_tellVisits_57 (k := ?_)
            refine VE_irem dX5_tellVisits_59 (by decide) ?_
            refine VE_istore_n (ls' := [(2, vI (a1 - a1 / 10 * 10)), (0, vR 23), (1, vI a1)]) dX5_tellVisits_60 ?_
            refine VE_aload_n 1 dX5_tellVisits_61 (k := ?_)
            refine VE_iload_n 0 dX5_tellVisits_62 (k := ?_)
            refine VE_cVi [vI (a1 - a1 / 10 * 10)] dX5_tellVisits_63 ml_X5_100 (((((h.2 c1).2 c2).2 c3).2 c4).2 c5) (fun r24 σ25 h26 => ?_) (rok_D d)
            refine VE_if_ne 72 dX5_tellVisits_66 (fun c27 => ?_) (fun c27 => ?_)
            · refine VE_iload_n 2 dX5_tellVisits_72 (k := ?_)
              refine VE_bipush 20 dX5_tellVisits_73 (k := ?_)
              refine VE_icmp_ge 87 dX5_tellVisits_75 (fun c28 => ?_) (fun c28 => ?_)
              · refine VE_iload_n 2 dX5_tellVisits_87 (k := ?_)
                refine VE_bipush 30 dX5_tellVisits_88 (k := ?_)
                refine VE_icmp_ge 102 dX5_tellVisits_90 (fun c29 => ?_) (fun c29 => ?_)
                · refine VE_aload_n 1 dX5_tellVisits_102 (k := ?_)
                  refine VE_iload_n 0 dX5_tellVisits_103 (k := ?_)
                  refine VE_cVi [vI (a1 - a1 / 10 * 10)] dX5_tellVisits_104 ml_X5_147 (((h26.1 c27).1 c28).1 c29) (fun r30 σ31 h32 => ?_) (rok_D d)
                  exact VM_iret dX5_tellVisits_107 h32
                · refine VE_aload_n 1 dX5_tellVisits_93 (k := ?_)
                  refine VE_getR 32 dX5_tellVisits_94 fl_X5_34 ?_
                  refine VE_iload_n 0 dX5_tellVisits_97 (k := ?_)
                  refine VE_iald dX5_tellVisits_98 (((h26.1 c27).1 c28).2 c29).1 ?_
                  refine VE_goto 107 dX5_tellVisits_99 ?_
                  exact VM_iret dX5_tellVisits_107 (((h26.1 c27).1 c28).2 c29).2
              · refine VE_aload_n 1 dX5_tellVisits_78 (k := ?_)
                refine VE_getR 31 dX5_tellVisits_79 fl_X5_31 ?_
                refine VE_iload_n 0 dX5_tellVisits_82 (k := ?_)
                refine VE_iald dX5_tellVisits_83 ((h26.1 c27).2 c28).1 ?_
                refine VE_goto 107 dX5_tellVisits_84 ?_
                exact VM_iret dX5_tellVisits_107 ((h26.1 c27).2 c28).2
            · refine VE_bipush (-9) dX5_tellVisits_69 (k := ?_)
              exact VM_iret dX5_tellVisits_71 (h26.2 c27)
theorem dX5_atHome_0 : decode cX5_atHome 0 = .ok (.iconst 0, 1) := by decide +kernel
theorem dX5_atHome_1 : decode cX5_atHome 1 = .ok (.istore_n 1, 1) := by decide +kernel
theorem dX5_atHome_2 : decode cX5_atHome 2 = .ok (.iconst 0, 1) := by decide +kernel
theorem dX5_atHome_3 : decode cX5_atHome 3 = .ok (.istore_n 2, 1) := by decide +kernel
theorem dX5_atHome_4 : decode cX5_atHome 4 = .ok (.iload_n 2, 1) := by decide +kernel
theorem dX5_atHome_5 : decode cX5_atHome 5 = .ok (.aload_n 0, 1) := by decide +kernel
theorem dX5_atHome_6 : decode cX5_atHome 6 = .ok (.getfield 59, 3) := by decide +kernel
theorem dX5_atHome_9 : decode cX5_atHome 9 = .ok (.if_icmp .ge 29, 3) := by decide +kernel
theorem dX5_atHome_12 : decode cX5_atHome 12 = .ok (.iload_n 1, 1) := by decide +kernel
theorem dX5_atHome_13 : decode cX5_atHome 13 = .ok (.aload_n 0, 1) := by decide +kernel
theorem dX5_atHome_14 : decode cX5_atHome 14 = .ok (.getfield 31, 3) := by decide +kernel
theorem dX5_atHome_17 : decode cX5_atHome 17 = .ok (.iload_n 2, 1) := by decide +kernel
theorem dX5_atHome_18 : decode cX5_atHome 18 = .ok (.iaload, 1) := by decide +kernel
theorem dX5_atHome_19 : decode cX5_atHome 19 = .ok (.iload_n 2, 1) := by decide +kernel
theorem dX5_atHome_20 : decode cX5_atHome 20 = .ok (.if_icmp .ne 9, 3) := by decide +kernel
theorem dX5_atHome_23 : decode cX5_atHome 23 = .ok (.iconst 1, 1) := by decide +kernel
theorem dX5_atHome_24 : decode cX5_atHome 24 = .ok (.iload_n 2, 1) := by decide +kernel
theorem dX5_atHome_25 : decode cX5_atHome 25 = .ok (.ishl, 1) := by decide +kernel
theorem dX5_atHome_26 : decode cX5_atHome 26 = .ok (.goto 4, 3) := by decide +kernel
theorem dX5_atHome_29 : decode cX5_atHome 29 = .ok (.iconst 0, 1) := by decide +kernel
theorem dX5_atHome_30 : decode cX5_atHome 30 = .ok (.ior, 1) := by decide +kernel
theorem dX5_atHome_31 : decode cX5_atHome 31 = .ok (.istore_n 1, 1) := by decide +kernel
theorem dX5_atHome_32 : decode cX5_atHome 32 = .ok (.iinc 2 1, 3) := by decide +kernel
theorem dX5_atHome_35 : decode cX5_atHome 35 = .ok (.goto (-31), 3) := by decide +kernel
theorem dX5_atHome_38 : decode cX5_atHome 38 = .ok (.iload_n 1, 1) := by decide +kernel
theorem dX5_atHome_39 : decode cX5_atHome 39 = .ok (.ireturn, 1) := by decide +kernel
set_option maxRecDepth 20000 in
theorem S_X5_atHome_0 {g : GG} {d : Nat} {F : Int32 → St → Prop}  (σ : St) (h : VM g d M_X5_atHome (qI F) 4 [(0, vR 23), (1, vI 0), (2, vI 0)] [] σ) : VM g d M_X5_atHome (qI F) 0 [(0, vR 23)] [] σ := by
  refine VE_iconst 0 dX5_atHome_0 (k := ?_)
  refine VE_istore_n (ls' := [(1, vI 0), (0, vR 23)]) dX5_atHome_1 ?_
  refine VE_iconst 0 dX5_atHome_2 (k := ?_)
  refine VE_istore_n (ls' := [(2, vI 0), (1, vI 0), (0, vR 23)]) dX5_atHome_3 ?_
  exact VE_sub [2, 1, 0] rfl h
set_option maxRecDepth 20000 in
theorem S_X5_atHome_4 {g : GG} {d : Nat} {F : Int32 → St → Prop} (x1 : Int32) (x2 : Int32) (σ : St) (h : (((σ 23 5) ≤ x2 → F x1 σ) ∧ (¬ (σ 23 5) ≤ x2 → (vp_in x2 5 ∧ ((¬ (σ 31 x2.toNatClampNeg) = x2 → VM g d M_X5_atHome (qI F) 4 [(0, vR 23), (1, vI (x1 ||| 0)), (2, vI (x2 + 1))] [] σ) ∧ ((σ 31 x2.toNatClampNeg) = x2 → VM g d M_X5_atHome (qI F) 4 [(0, vR 23), (1, vI (x1 ||| (1 <<< (x2 &&& 31)))), (2, vI (x2 + 1))] [] σ)))))) : VM g d M_X5_atHome (qI F) 4 [(0, vR 23), (1, vI x1), (2, vI x2)] [] σ := by
  refine VE_iload_n 2 dX5_atHome_4 (k := ?_)
  refine VE_aload_n 0 dX5_atHome_5 (k := ?_)
  refine VE_getI dX5_atHome_6 fl_X5_59 ?_
  refine VE_icmp_ge 38 dX5_atHome_9 (fun c1 => ?_) (fun c1 => ?_)
  · refine VE_iload_n 1 dX5_atHome_38 (k := ?_)
    exact VM_iret dX5_atHome_39 (h.1 c1)
  · refine VE_iload_n 1 dX5_atHome_12 (k := ?_)
    refine VE_aload_n 0 dX5_atHome_13 (k := ?_)
    refine VE_getR 31 dX5_atHome_14 fl_X5_31 ?_
    refine VE_iload_n 2 dX5_atHome_17 (k := ?_)
    refine VE_iald dX5_atHome_18 (h.2 c1).1 ?_
    refine VE_iload_n 2 dX5_atHome_19 (k := ?_)
    refine VE_icmp_ne 29 dX5_atHome_20 (fun c2 => ?_) (fun c2 => ?_)
    · refine VE_iconst 0 dX5_atHome_29 (k := ?_)
      refine VE_ior dX5_atHome_30 ?_
      refine VE_istore_n (ls' := [(1, vI (x1 ||| 0)), (0, vR 23), (2, vI x2)]) dX5_atHome_31 ?_
      refine VE_iinc 2 (x2 + 1) (ls' := [(2, vI (x2 + 1)), (1, vI (x1 ||| 0)), (0, vR 23)]) dX5_atHome_32 ?_
      refine VE_goto 4 dX5_atHome_35 ?_
      exact VE_sub [2, 1, 0] rfl ((h.2 c1).2.1 c2)
    · refine VE_iconst 1 dX5_atHome_23 (k := ?_)
      refine VE_iload_n 2 dX5_atHome_24 (k := ?_)
      refine VE_ishl dX5_atHome_25 ?_
      refine VE_goto 30 dX5_atHome_26 ?_
      refine VE_ior dX5_atHome_30 ?_
      refine VE_istore_n (ls' := [(1, vI (x1 ||| (1 <<< (x2 &&& 31)))), (0, vR 23), (2, vI x2)]) dX5_atHome_31 ?_
      refine VE_iinc 2 (x2 + 1) (ls' := [(2, vI (x2 + 1)), (1, vI (x1 ||| (1 <<< (x2 &&& 31)))), (0, vR 23)]) dX5_atHome_32 ?_
      refine VE_goto 4 dX5_atHome_35 ?_
      exact VE_sub [2, 1, 0] rfl ((h.2 c1).2.2 c2)
theorem dX5_firstAway_0 : decode cX5_firstAway 0 = .ok (.iconst 0, 1) := by decide +kernel
theorem dX5_firstAway_1 : decode cX5_firstAway 1 = .ok (.istore_n 1, 1) := by decide +kernel
theorem dX5_firstAway_2 : decode cX5_firstAway 2 = .ok (.iload_n 1, 1) := by decide +kernel
theorem dX5_firstAway_3 : decode cX5_firstAway 3 = .ok (.aload_n 0, 1) := by decide +kernel
theorem dX5_firstAway_4 : decode cX5_firstAway 4 = .ok (.getfield 59, 3) := by decide +kernel
theorem dX5_firstAway_7 : decode cX5_firstAway 7 = .ok (.if_icmp .ge 21, 3) := by decide +kernel
theorem dX5_firstAway_10 : decode cX5_firstAway 10 = .ok (.aload_n 0, 1) := by decide +kernel
theorem dX5_firstAway_11 : decode cX5_firstAway 11 = .ok (.getfield 31, 3) := by decide +kernel
theorem dX5_firstAway_14 : decode cX5_firstAway 14 = .ok (.iload_n 1, 1) := by decide +kernel
theorem dX5_firstAway_15 : decode cX5_firstAway 15 = .ok (.iaload, 1) := by decide +kernel
theorem dX5_firstAway_16 : decode cX5_firstAway 16 = .ok (.iload_n 1, 1) := by decide +kernel
theorem dX5_firstAway_17 : decode cX5_firstAway 17 = .ok (.if_icmp .eq 5, 3) := by decide +kernel
theorem dX5_firstAway_20 : decode cX5_firstAway 20 = .ok (.iload_n 1, 1) := by decide +kernel
theorem dX5_firstAway_21 : decode cX5_firstAway 21 = .ok (.ireturn, 1) := by decide +kernel
theorem dX5_firstAway_22 : decode cX5_firstAway 22 = .ok (.iinc 1 1, 3) := by decide +kernel
theorem dX5_firstAway_25 : decode cX5_firstAway 25 = .ok (.goto (-23), 3) := by decide +kernel
theorem dX5_firstAway_28 : decode cX5_firstAway 28 = .ok (.bipush (-9), 2) := by decide +kernel
theorem dX5_firstAway_30 : decode cX5_firstAway 30 = .ok (.ireturn, 1) := by decide +kernel
set_option maxRecDepth 20000 in
theorem S_X5_firstAway_0 {g : GG} {d : Nat} {F : Int32 → St → Prop}  (σ : St) (h : VM g d M_X5_firstAway (qI F) 2 [(0, vR 23), (1, vI 0)] [] σ) : VM g d M_X5_firstAway (qI F) 0 [(0, vR 23)] [] σ := by
  refine VE_iconst 0 dX5_firstAway_0 (k := ?_)
  refine VE_istore_n (ls' := [(1, vI 0), (0, vR 23)]) dX5_firstAway_1 ?_
  exact VE_sub [1, 0] rfl h
set_option maxRecDepth 20000 in
theorem S_X5_firstAway_2 {g : GG} {d : Nat} {F : Int32 → St → Prop} (x1 : Int32) (σ : St) (h : (((σ 23 5) ≤ x1 → F (-9) σ) ∧ (¬ (σ 23 5) ≤ x1 → (vp_in x1 5 ∧ (((σ 31 x1.toNatClampNeg) = x1 → VM g d M_X5_firstAway (qI F) 2 [(0, vR 23), (1, vI (x1 + 1))] [] σ) ∧ (¬ (σ 31 x1.toNatClampNeg) = x1 → F x1 σ)))))) : VM g d M_X5_firstAway (qI F) 2 [(0, vR 23), (1, vI x1)] [] σ := by
  refine VE_iload_n 1 dX5_firstAway_2 (k := ?_)
  refine VE_aload_n 0 dX5_firstAway_3 (k := ?_)
  refine VE_getI dX5_firstAway_4 fl_X5_59 ?_
  refine VE_icmp_ge 28 dX5_firstAway_7 (fun c1 => ?_) (fun c1 => ?_)
  · refine VE_bipush (-9) dX5_firstAway_28 (k := ?_)
    exact VM_iret dX5_firstAway_30 (h.1 c1)
  · refine VE_aload_n 0 dX5_firstAway_10 (k := ?_)
    refine VE_getR 31 dX5_firstAway_11 fl_X5_31 ?_
    refine VE_iload_n 1 dX5_firstAway_14 (k := ?_)
    refine VE_iald dX5_firstAway_15 (h.2 c1).1 ?_
    refine VE_iload_n 1 dX5_firstAway_16 (k := ?_)
    refine VE_icmp_eq 22 dX5_firstAway_17 (fun c2 => ?_) (fun c2 => ?_)
    · refine VE_iinc 1 (x1 + 1) (ls' := [(1, vI (x1 + 1)), (0, vR 23)]) dX5_firstAway_22 ?_
      refine VE_goto 2 dX5_firstAway_25 ?_
      exact VE_sub [1, 0] rfl ((h.2 c1).2.1 c2)
    · refine VE_iload_n 1 dX5_firstAway_20 (k := ?_)
      exact VM_iret dX5_firstAway_21 ((h.2 c1).2.2 c2)
theorem dX5_home_0 : decode cX5_home 0 = .ok (.iconst 0, 1) := by decide +kernel
theorem dX5_home_1 : decode cX5_home 1 = .ok (.istore_n 1, 1) := by decide +kernel
theorem dX5_home_2 : decode cX5_home 2 = .ok (.aload_n 0, 1) := by decide +kernel
theorem dX5_home_3 : decode cX5_home 3 = .ok (.invokevirtual 150, 3) := by decide +kernel
theorem dX5_home_6 : decode cX5_home 6 = .ok (.bipush (-9), 2) := by decide +kernel
theorem dX5_home_8 : decode cX5_home 8 = .ok (.if_icmp .eq 33, 3) := by decide +kernel
theorem dX5_home_11 : decode cX5_home 11 = .ok (.aload_n 0, 1) := by decide +kernel
theorem dX5_home_12 : decode cX5_home 12 = .ok (.aload_n 0, 1) := by decide +kernel
theorem dX5_home_13 : decode cX5_home 13 = .ok (.getfield 106, 3) := by decide +kernel
theorem dX5_home_16 : decode cX5_home 16 = .ok (.bipush (-9), 2) := by decide +kernel
theorem dX5_home_18 : decode cX5_home 18 = .ok (.if_icmp .ne 10, 3) := by decide +kernel
theorem dX5_home_21 : decode cX5_home 21 = .ok (.aload_n 0, 1) := by decide +kernel
theorem dX5_home_22 : decode cX5_home 22 = .ok (.invokevirtual 150, 3) := by decide +kernel
theorem dX5_home_25 : decode cX5_home 25 = .ok (.goto 7, 3) := by decide +kernel
theorem dX5_home_28 : decode cX5_home 28 = .ok (.aload_n 0, 1) := by decide +kernel
theorem dX5_home_29 : decode cX5_home 29 = .ok (.getfield 106, 3) := by decide +kernel
theorem dX5_home_32 : decode cX5_home 32 = .ok (.invokevirtual 109, 3) := by decide +kernel
theorem dX5_home_35 : decode cX5_home 35 = .ok (.iinc 1 1, 3) := by decide +kernel
theorem dX5_home_38 : decode cX5_home 38 = .ok (.goto (-36), 3) := by decide +kernel
theorem dX5_home_41 : decode cX5_home 41 = .ok (.iload_n 1, 1) := by decide +kernel
theorem dX5_home_42 : decode cX5_home 42 = .ok (.ireturn, 1) := by decide +kernel
set_option maxRecDepth 20000 in
theorem S_X5_home_0 {g : GG} {d : Nat} {F : Int32 → St → Prop}  (σ : St) (h : VM g (d + 1) M_X5_home (qI F) 2 [(0, vR 23), (1, vI 0)] [] σ) : VM g (d + 1) M_X5_home (qI F) 0 [(0, vR 23)] [] σ := by
  refine VE_iconst 0 dX5_home_0 (k := ?_)
  refine VE_istore_n (ls' := [(1, vI 0), (0, vR 23)]) dX5_home_1 ?_
  exact VE_sub [1, 0] rfl h
set_option maxRecDepth 20000 in
theorem S_X5_home_2 {g : GG} {d : Nat} {F : Int32 → St → Prop} (x1 : Int32) (σ : St) (h : (ME g d M_X5_firstAway [vR 23] σ (qI (fun r1 σ2 => ((r1 = (-9) → F x1 σ2) ∧ (¬ r1 = (-9) → ((¬ (σ2 23 14) = (-9) → (ME g d M_X5_change [vR 23, vI (σ2 23 14)] σ2 (qV (fun σ7 => VM g (d + 1) M_X5_home (qI F) 2 [(0, vR 23), (1, vI (x1 + 1))] [] σ7)))) ∧ ((σ2 23 14) = (-9) → (ME g d M_X5_firstAway [vR 23] σ2 (qI (fun r9 σ10 => (ME g d M_X5_change [vR 23, vI r9] σ10 (qV (fun σ13 => VM g (d + 1) M_X5_home (qI F) 2 [(0, vR 23), (1, vI (x1 + 1))] [] σ13)))))))))))))) : VM g (d + 1) M_X5_home (qI F) 2 [(0, vR 23), (1, vI x1)] [] σ := by
  refine VE_aload_n 0 dX5_home_2 (k := ?_)
  refine VE_cVi [] dX5_home_3 ml_X5_150 h (fun r1 σ2 h3 => ?_) (rok_D d)
  refine VE_bipush (-9) dX5_home_6 (k := ?_)
  refine VE_icmp_eq 41 dX5_home_8 (fun c4 => ?_) (fun c4 => ?_)
  · refine VE_iload_n 1 dX5_home_41 (k := ?_)
    exact VM_iret dX5_home_42 (h3.1 c4)
  · refine VE_aload_n 0 dX5_home_11 (k := ?_)
    refine VE_aload_n 0 dX5_home_12 (k := ?_)
    refine VE_getI dX5_home_13 fl_X5_106 ?_
    refine VE_bipush (-9) dX5_home_16 (k := ?_)
    refine VE_icmp_ne 28 dX5_home_18 (fun c5 => ?_) (fun c5 => ?_)
    · refine VE_aload_n 0 dX5_home_28 (k := ?_)
      refine VE_getI dX5_home_29 fl_X5_106 ?_
      refine VE_cVv [vI (σ2 23 14)] dX5_home_32 ml_X5_109 ((h3.2 c4).1 c5) (fun σ7 h8 => ?_) (rok_D d)
      refine VE_iinc 1 (x1 + 1) (ls' := [(1, vI (x1 + 1)), (0, vR 23)]) dX5_home_35 ?_
      refine VE_goto 2 dX5_home_38 ?_
      exact VE_sub [1, 0] rfl h8
    · refine VE_aload_n 0 dX5_home_21 (k := ?_)
      refine VE_cVi [] dX5_home_22 ml_X5_150 ((h3.2 c4).2 c5) (fun r9 σ10 h11 => ?_) (rok_D d)
      refine VE_goto 32 dX5_home_25 ?_
      refine VE_cVv [vI r9] dX5_home_32 ml_X5_109 h11 (fun σ13 h14 => ?_) (rok_D d)
      refine VE_iinc 1 (x1 + 1) (ls' := [(1, vI (x1 + 1)), (0, vR 23)]) dX5_home_35 ?_
      refine VE_goto 2 dX5_home_38 ?_
      exact VE_sub [1, 0] rfl h14
end
section
theorem dX5_worn_0 : decode cX5_worn 0 = .ok (.bipush (-9), 2) := by decide +kernel
theorem dX5_worn_2 : decode cX5_worn 2 = .ok (.istore_n 1, 1) := by decide +kernel
theorem dX5_worn_3 : decode cX5_worn 3 = .ok (.iconst 0, 1) := by decide +kernel
theorem dX5_worn_4 : decode cX5_worn 4 = .ok (.istore_n 2, 1) := by decide +kernel
theorem dX5_worn_5 : decode cX5_worn 5 = .ok (.iload_n 2, 1) := by decide +kernel
theorem dX5_worn_6 : decode cX5_worn 6 = .ok (.aload_n 0, 1) := by decide +kernel
theorem dX5_worn_7 : decode cX5_worn 7 = .ok (.getfield 59, 3) := by decide +kernel
theorem dX5_worn_10 : decode cX5_worn 10 = .ok (.if_icmp .ge 41, 3) := by decide +kernel
theorem dX5_worn_13 : decode cX5_worn 13 = .ok (.aload_n 0, 1) := by decide +kernel
theorem dX5_worn_14 : decode cX5_worn 14 = .ok (.getfield 34, 3) := by decide +kernel
theorem dX5_worn_17 : decode cX5_worn 17 = .ok (.iload_n 2, 1) := by decide +kernel
theorem dX5_worn_18 : decode cX5_worn 18 = .ok (.iaload, 1) := by decide +kernel
theorem dX5_worn_19 : decode cX5_worn 19 = .ok (.ifCond .le 26, 3) := by decide +kernel
theorem dX5_worn_22 : decode cX5_worn 22 = .ok (.iload_n 1, 1) := by decide +kernel
theorem dX5_worn_23 : decode cX5_worn 23 = .ok (.bipush (-9), 2) := by decide +kernel
theorem dX5_worn_25 : decode cX5_worn 25 = .ok (.if_icmp .eq 18, 3) := by decide +kernel
theorem dX5_worn_28 : decode cX5_worn 28 = .ok (.aload_n 0, 1) := by decide +kernel
theorem dX5_worn_29 : decode cX5_worn 29 = .ok (.getfield 34, 3) := by decide +kernel
theorem dX5_worn_32 : decode cX5_worn 32 = .ok (.iload_n 2, 1) := by decide +kernel
theorem dX5_worn_33 : decode cX5_worn 33 = .ok (.iaload, 1) := by decide +kernel
theorem dX5_worn_34 : decode cX5_worn 34 = .ok (.aload_n 0, 1) := by decide +kernel
theorem dX5_worn_35 : decode cX5_worn 35 = .ok (.getfield 34, 3) := by decide +kernel
theorem dX5_worn_38 : decode cX5_worn 38 = .ok (.iload_n 1, 1) := by decide +kernel
theorem dX5_worn_39 : decode cX5_worn 39 = .ok (.iaload, 1) := by decide +kernel
theorem dX5_worn_40 : decode cX5_worn 40 = .ok (.if_icmp .le 5, 3) := by decide +kernel
theorem dX5_worn_43 : decode cX5_worn 43 = .ok (.iload_n 2, 1) := by decide +kernel
theorem dX5_worn_44 : decode cX5_worn 44 = .ok (.istore_n 1, 1) := by decide +kernel
theorem dX5_worn_45 : decode cX5_worn 45 = .ok (.iinc 2 1, 3) := by decide +kernel
theorem dX5_worn_48 : decode cX5_worn 48 = .ok (.goto (-43), 3) := by decide +kernel
theorem dX5_worn_51 : decode cX5_worn 51 = .ok (.iload_n 1, 1) := by decide +kernel
theorem dX5_worn_52 : decode cX5_worn 52 = .ok (.ireturn, 1) := by decide +kernel
set_option maxRecDepth 20000 in
theorem S_X5_worn_0 {g : GG} {d : Nat} {F : Int32 → St → Prop}  (σ : St) (h : VM g d M_X5_worn (qI F) 5 [(0, vR 23), (1, vI (-9)), (2, vI 0)] [] σ) : VM g d M_X5_worn (qI F) 0 [(0, vR 23)] [] σ := by
  refine VE_bipush (-9) dX5_worn_0 (k := ?_)
  refine VE_istore_n (ls' := [(1, vI (-9)), (0, vR 23)]) dX5_worn_2 ?_
  refine VE_iconst 0 dX5_worn_3 (k := ?_)
  refine VE_istore_n (ls' := [(2, vI 0), (1, vI (-9)), (0, vR 23)]) dX5_worn_4 ?_
  exact VE_sub [2, 1, 0] rfl h
set_option maxRecDepth 20000 in
theorem S_X5_worn_5 {g : GG} {d : Nat} {F : Int32 → St → Prop} (x1 : Int32) (x2 : Int32) (σ : St) (h : (((σ 23 5) ≤ x2 → F x1 σ) ∧ (¬ (σ 23 5) ≤ x2 → (vp_in x2 5 ∧ (((σ 32 x2.toNatClampNeg) ≤ 0 → VM g d M_X5_worn (qI F) 5 [(0, vR 23), (1, vI x1), (2, vI (x2 + 1))] [] σ) ∧ (¬ (σ 32 x2.toNatClampNeg) ≤ 0 → ((x1 = (-9) → VM g d M_X5_worn (qI F) 5 [(0, vR 23), (1, vI x2), (2, vI (x2 + 1))] [] σ) ∧ (¬ x1 = (-9) → (vp_in x1 5 ∧ (((σ 32 x2.toNatClampNeg) ≤ (σ 32 x1.toNatClampNeg) → VM g d M_X5_worn (qI F) 5 [(0, vR 23), (1, vI x1), (2, vI (x2 + 1))] [] σ) ∧ (¬ (σ 32 x2.toNatClampNeg) ≤ (σ 32 x1.toNatClampNeg) → VM g d M_X5_worn (qI F) 5 [(0, vR 23), (1, vI x2), (2, vI (x2 + 1))] [] σ))))))))))) : VM g d M_X5_worn (qI F) 5 [(0, vR 23), (1, vI x1), (2, vI x2)] [] σ := by
  refine VE_iload_n 2 dX5_worn_5 (k := ?_)
  refine VE_aload_n 0 dX5_worn_6 (k := ?_)
  refine VE_getI dX5_worn_7 fl_X5_59 ?_
  refine VE_icmp_ge 51 dX5_worn_10 (fun c1 => ?_) (fun c1 => ?_)
  · refine VE_iload_n 1 dX5_worn_51 (k := ?_)
    exact VM_iret dX5_worn_52 (h.1 c1)
  · refine VE_aload_n 0 dX5_worn_13 (k := ?_)
    refine VE_getR 32 dX5_worn_14 fl_X5_34 ?_
    refine VE_iload_n 2 dX5_worn_17 (k := ?_)
    refine VE_iald dX5_worn_18 (h.2 c1).1 ?_
    refine VE_if_le 45 dX5_worn_19 (fun c2 => ?_) (fun c2 => ?_)
    · refine VE_iinc 2 (x2 + 1) (ls' := [(2, vI (x2 + 1)), (0, vR 23), (1, vI x1)]) dX5_worn_45 ?_
      refine VE_goto 5 dX5_worn_48 ?_
      exact VE_sub [1, 2, 0] rfl ((h.2 c1).2.1 c2)
    · refine VE_iload_n 1 dX5_worn_22 (k := ?_)
      refine VE_bipush (-9) dX5_worn_23 (k := ?_)
      refine VE_icmp_eq 43 dX5_worn_25 (fun c3 => ?_) (fun c3 => ?_)
      · refine VE_iload_n 2 dX5_worn_43 (k := ?_)
        refine VE_istore_n (ls' := [(1, vI x2), (0, vR 23), (2, vI x2)]) dX5_worn_44 ?_
        refine VE_iinc 2 (x2 + 1) (ls' := [(2, vI (x2 + 1)), (1, vI x2), (0, vR 23)]) dX5_worn_45 ?_
        refine VE_goto 5 dX5_worn_48 ?_
        exact VE_sub [2, 1, 0] rfl (((h.2 c1).2.2 c2).1 c3)
      · refine VE_aload_n 0 dX5_worn_28 (k := ?_)
        refine VE_getR 32 dX5_worn_29 fl_X5_34 ?_
        refine VE_iload_n 2 dX5_worn_32 (k := ?_)
        refine VE_iald dX5_worn_33 (h.2 c1).1 ?_
        refine VE_aload_n 0 dX5_worn_34 (k := ?_)
        refine VE_getR 32 dX5_worn_35 fl_X5_34 ?_
        refine VE_iload_n 1 dX5_worn_38 (k := ?_)
        refine VE_iald dX5_worn_39 (((h.2 c1).2.2 c2).2 c3).1 ?_
        refine VE_icmp_le 45 dX5_worn_40 (fun c4 => ?_) (fun c4 => ?_)
        · refine VE_iinc 2 (x2 + 1) (ls' := [(2, vI (x2 + 1)), (0, vR 23), (1, vI x1)]) dX5_worn_45 ?_
          refine VE_goto 5 dX5_worn_48 ?_
          exact VE_sub [1, 2, 0] rfl ((((h.2 c1).2.2 c2).2 c3).2.1 c4)
        · refine VE_iload_n 2 dX5_worn_43 (k := ?_)
          refine VE_istore_n (ls' := [(1, vI x2), (0, vR 23), (2, vI x2)]) dX5_worn_44 ?_
          refine VE_iinc 2 (x2 + 1) (ls' := [(2, vI (x2 + 1)), (1, vI x2), (0, vR 23)]) dX5_worn_45 ?_
          refine VE_goto 5 dX5_worn_48 ?_
          exact VE_sub [2, 1, 0] rfl ((((h.2 c1).2.2 c2).2 c3).2.2 c4)
theorem dX5_fooled_0 : decode cX5_fooled 0 = .ok (.iconst 0, 1) := by decide +kernel
theorem dX5_fooled_1 : decode cX5_fooled 1 = .ok (.istore_n 2, 1) := by decide +kernel
theorem dX5_fooled_2 : decode cX5_fooled 2 = .ok (.iconst 0, 1) := by decide +kernel
theorem dX5_fooled_3 : decode cX5_fooled 3 = .ok (.istore_n 3, 1) := by decide +kernel
theorem dX5_fooled_4 : decode cX5_fooled 4 = .ok (.iload_n 3, 1) := by decide +kernel
theorem dX5_fooled_5 : decode cX5_fooled 5 = .ok (.aload_n 0, 1) := by decide +kernel
theorem dX5_fooled_6 : decode cX5_fooled 6 = .ok (.getfield 59, 3) := by decide +kernel
theorem dX5_fooled_9 : decode cX5_fooled 9 = .ok (.if_icmp .ge 53, 3) := by decide +kernel
theorem dX5_fooled_12 : decode cX5_fooled 12 = .ok (.iload_n 2, 1) := by decide +kernel
theorem dX5_fooled_13 : decode cX5_fooled 13 = .ok (.iload_n 3, 1) := by decide +kernel
theorem dX5_fooled_14 : decode cX5_fooled 14 = .ok (.iload_n 1, 1) := by decide +kernel
theorem dX5_fooled_15 : decode cX5_fooled 15 = .ok (.if_icmp .eq 38, 3) := by decide +kernel
theorem dX5_fooled_18 : decode cX5_fooled 18 = .ok (.aload_n 0, 1) := by decide +kernel
theorem dX5_fooled_19 : decode cX5_fooled 19 = .ok (.getfield 31, 3) := by decide +kernel
theorem dX5_fooled_22 : decode cX5_fooled 22 = .ok (.iload_n 3, 1) := by decide +kernel
theorem dX5_fooled_23 : decode cX5_fooled 23 = .ok (.iaload, 1) := by decide +kernel
theorem dX5_fooled_24 : decode cX5_fooled 24 = .ok (.bipush (-9), 2) := by decide +kernel
theorem dX5_fooled_26 : decode cX5_fooled 26 = .ok (.if_icmp .eq 27, 3) := by decide +kernel
theorem dX5_fooled_29 : decode cX5_fooled 29 = .ok (.aload_n 0, 1) := by decide +kernel
theorem dX5_fooled_30 : decode cX5_fooled 30 = .ok (.getfield 31, 3) := by decide +kernel
theorem dX5_fooled_33 : decode cX5_fooled 33 = .ok (.iload_n 3, 1) := by decide +kernel
theorem dX5_fooled_34 : decode cX5_fooled 34 = .ok (.iaload, 1) := by decide +kernel
theorem dX5_fooled_35 : decode cX5_fooled 35 = .ok (.iload_n 3, 1) := by decide +kernel
theorem dX5_fooled_36 : decode cX5_fooled 36 = .ok (.if_icmp .eq 17, 3) := by decide +kernel
theorem dX5_fooled_39 : decode cX5_fooled 39 = .ok (.aload_n 0, 1) := by decide +kernel
theorem dX5_fooled_40 : decode cX5_fooled 40 = .ok (.getfield 25, 3) := by decide +kernel
theorem dX5_fooled_43 : decode cX5_fooled 43 = .ok (.iload_n 1, 1) := by decide +kernel
theorem dX5_fooled_44 : decode cX5_fooled 44 = .ok (.iaload, 1) := by decide +kernel
theorem dX5_fooled_45 : decode cX5_fooled 45 = .ok (.iload_n 3, 1) := by decide +kernel
theorem dX5_fooled_46 : decode cX5_fooled 46 = .ok (.if_icmp .eq 7, 3) := by decide +kernel
theorem dX5_fooled_49 : decode cX5_fooled 49 = .ok (.iconst 1, 1) := by decide +kernel
theorem dX5_fooled_50 : decode cX5_fooled 50 = .ok (.goto 4, 3) := by decide +kernel
theorem dX5_fooled_53 : decode cX5_fooled 53 = .ok (.iconst 0, 1) := by decide +kernel
theorem dX5_fooled_54 : decode cX5_fooled 54 = .ok (.iadd, 1) := by decide +kernel
theorem dX5_fooled_55 : decode cX5_fooled 55 = .ok (.istore_n 2, 1) := by decide +kernel
theorem dX5_fooled_56 : decode cX5_fooled 56 = .ok (.iinc 3 1, 3) := by decide +kernel
theorem dX5_fooled_59 : decode cX5_fooled 59 = .ok (.goto (-55), 3) := by decide +kernel
theorem dX5_fooled_62 : decode cX5_fooled 62 = .ok (.iload_n 2, 1) := by decide +kernel
theorem dX5_fooled_63 : decode cX5_fooled 63 = .ok (.ireturn, 1) := by decide +kernel
set_option maxRecDepth 20000 in
theorem S_X5_fooled_0 {g : GG} {d : Nat} {F : Int32 → St → Prop} (a1 : Int32) (σ : St) (h : VM g d M_X5_fooled (qI F) 4 [(0, vR 23), (1, vI a1), (2, vI 0), (3, vI 0)] [] σ) : VM g d M_X5_fooled (qI F) 0 [(0, vR 23), (1, vI a1)] [] σ := by
  refine VE_iconst 0 dX5_fooled_0 (k := ?_)
  refine VE_istore_n (ls' := [(2, vI 0), (0, vR 23), (1, vI a1)]) dX5_fooled_1 ?_
  refine VE_iconst 0 dX5_fooled_2 (k := ?_)
  refine VE_istore_n (ls' := [(3, vI 0), (2, vI 0), (0, vR 23), (1, vI a1)]) dX5_fooled_3 ?_
  exact VE_sub [2, 3, 1, 0] rfl h
set_option maxRecDepth 20000 in
theorem S_X5_fooled_4 {g : GG} {d : Nat} {F : Int32 → St → Prop} (x1 : Int32) (x2 : Int32) (x3 : Int32) (σ : St) (h : (((σ 23 5) ≤ x3 → F x2 σ) ∧ (¬ (σ 23 5) ≤ x3 → ((x3 = x1 → VM g d M_X5_fooled (qI F) 4 [(0, vR 23), (1, vI x1), (2, vI (x2 + 0)), (3, vI (x3 + 1))] [] σ) ∧ (¬ x3 = x1 → (vp_in x3 5 ∧ (((σ 31 x3.toNatClampNeg) = (-9) → VM g d M_X5_fooled (qI F) 4 [(0, vR 23), (1, vI x1), (2, vI (x2 + 0)), (3, vI (x3 + 1))] [] σ) ∧ (¬ (σ 31 x3.toNatClampNeg) = (-9) → (((σ 31 x3.toNatClampNeg) = x3 → VM g d M_X5_fooled (qI F) 4 [(0, vR 23), (1, vI x1), (2, vI (x2 + 0)), (3, vI (x3 + 1))] [] σ) ∧ (¬ (σ 31 x3.toNatClampNeg) = x3 → (vp_in x1 5 ∧ (((σ 29 x1.toNatClampNeg) = x3 → VM g d M_X5_fooled (qI F) 4 [(0, vR 23), (1, vI x1), (2, vI (x2 + 0)), (3, vI (x3 + 1))] [] σ) ∧ (¬ (σ 29 x1.toNatClampNeg) = x3 → VM g d M_X5_fooled (qI F) 4 [(0, vR 23), (1, vI x1), (2, vI (x2 + 1)), (3, vI (x3 + 1))] [] σ))))))))))))) : VM g d M_X5_fooled (qI F) 4 [(0, vR 23), (1, vI x1), (2, vI x2), (3, vI x3)] [] σ := by
  refine VE_iload_n 3 dX5_fooled_4 (k := ?_)
  refine VE_aload_n 0 dX5_fooled_5 (k := ?_)
  refine VE_getI dX5_fooled_6 fl_X5_59 ?_
  refine VE_icmp_ge 62 dX5_fooled_9 (fun c1 => ?_) (fun c1 => ?_)
  · refine VE_iload_n 2 dX5_fooled_62 (k := ?_)
    exact VM_iret dX5_fooled_63 (h.1 c1)
  · refine VE_iload_n 2 dX5_fooled_12 (k := ?_)
    refine VE_iload_n 3 dX5_fooled_13 (k := ?_)
    refine VE_iload_n 1 dX5_fooled_14 (k := ?_)
    refine VE_icmp_eq 53 dX5_fooled_15 (fun c2 => ?_) (fun c2 => ?_)
    · refine VE_iconst 0 dX5_fooled_53 (k := ?_)
      refine VE_iadd dX5_fooled_54 ?_
      refine VE_istore_n (ls' := [(2, vI (x2 + 0)), (0, vR 23), (1, vI x1), (3, vI x3)]) dX5_fooled_55 ?_
      refine VE_iinc 3 (x3 + 1) (ls' := [(3, vI (x3 + 1)), (2, vI (x2 + 0)), (0, vR 23), (1, vI x1)]) dX5_fooled_56 ?_
      refine VE_goto 4 dX5_fooled_59 ?_
      exact VE_sub [2, 3, 1, 0] rfl ((h.2 c1).1 c2)
    · refine VE_aload_n 0 dX5_fooled_18 (k := ?_)
      refine VE_getR 31 dX5_fooled_19 fl_X5_31 ?_
      refine VE_iload_n 3 dX5_fooled_22 (k := ?_)
      refine VE_iald dX5_fooled_23 ((h.2 c1).2 c2).1 ?_
      refine VE_bipush (-9) dX5_fooled_24 (k := ?_)
      refine VE_icmp_eq 53 dX5_fooled_26 (fun c3 => ?_) (fun c3 => ?_)
      · refine VE_iconst 0 dX5_fooled_53 (k := ?_)
        refine VE_iadd dX5_fooled_54 ?_
        refine VE_istore_n (ls' := [(2, vI (x2 + 0)), (0, vR 23), (1, vI x1), (3, vI x3)]) dX5_fooled_55 ?_
        refine VE_iinc 3 (x3 + 1) (ls' := [(3, vI (x3 + 1)), (2, vI (x2 + 0)), (0, vR 23), (1, vI x1)]) dX5_fooled_56 ?_
        refine VE_goto 4 dX5_fooled_59 ?_
        exact VE_sub [2, 3, 1, 0] rfl (((h.2 c1).2 c2).2.1 c3)
      · refine VE_aload_n 0 dX5_fooled_29 (k := ?_)
        refine VE_getR 31 dX5_fooled_30 fl_X5_31 ?_
        refine VE_iload_n 3 dX5_fooled_33 (k := ?_)
        refine VE_iald dX5_fooled_34 ((h.2 c1).2 c2).1 ?_
        refine VE_iload_n 3 dX5_fooled_35 (k := ?_)
        refine VE_icmp_eq 53 dX5_fooled_36 (fun c4 => ?_) (fun c4 => ?_)
        · refine VE_iconst 0 dX5_fooled_53 (k := ?_)
          refine VE_iadd dX5_fooled_54 ?_
          refine VE_istore_n (ls' := [(2, vI (x2 + 0)), (0, vR 23), (1, vI x1), (3, vI x3)]) dX5_fooled_55 ?_
          refine VE_iinc 3 (x3 + 1) (ls' := [(3, vI (x3 + 1)), (2, vI (x2 + 0)), (0, vR 23), (1, vI x1)]) dX5_fooled_56 ?_
          refine VE_goto 4 dX5_fooled_59 ?_
          exact VE_sub [2, 3, 1, 0] rfl ((((h.2 c1).2 c2).2.2 c3).1 c4)
        · refine VE_aload_n 0 dX5_fooled_39 (k := ?_)
          refine VE_getR 29 dX5_fooled_40 fl_X5_25 ?_
          refine VE_iload_n 1 dX5_fooled_43 (k := ?_)
          refine VE_iald dX5_fooled_44 ((((h.2 c1).2 c2).2.2 c3).2 c4).1 ?_
          refine VE_iload_n 3 dX5_fooled_45 (k := ?_)
          refine VE_icmp_eq 53 dX5_fooled_46 (fun c5 => ?_) (fun c5 => ?_)
          · refine VE_iconst 0 dX5_fooled_53 (k := ?_)
            refine VE_iadd dX5_fooled_54 ?_
            refine VE_istore_n (ls' := [(2, vI (x2 + 0)), (0, vR 23), (1, vI x1), (3, vI x3)]) dX5_fooled_55 ?_
            refine VE_iinc 3 (x3 + 1) (ls' := [(3, vI (x3 + 1)), (2, vI (x2 + 0)), (0, vR 23), (1, vI x1)]) dX5_fooled_56 ?_
            refine VE_goto 4 dX5_fooled_59 ?_
            exact VE_sub [2, 3, 1, 0] rfl (((((h.2 c1).2 c2).2.2 c3).2 c4).2.1 c5)
          · refine VE_iconst 1 dX5_fooled_49 (k := ?_)
            refine VE_goto 54 dX5_fooled_50 ?_
            refine VE_iadd dX5_fooled_54 ?_
            refine VE_istore_n (ls' := [(2, vI (x2 + 1)), (0, vR 23), (1, vI x1), (3, vI x3)]) dX5_fooled_55 ?_
            refine VE_iinc 3 (x3 + 1) (ls' := [(3, vI (x3 + 1)), (2, vI (x2 + 1)), (0, vR 23), (1, vI x1)]) dX5_fooled_56 ?_
            refine VE_goto 4 dX5_fooled_59 ?_
            exact VE_sub [2, 3, 1, 0] rfl (((((h.2 c1).2 c2).2.2 c3).2 c4).2.2 c5)
theorem dX5_layRow_0 : decode cX5_layRow 0 = .ok (.iload_n 1, 1) := by decide +kernel
theorem dX5_layRow_1 : decode cX5_layRow 1 = .ok (.istore_n 3, 1) := by decide +kernel
theorem dX5_layRow_2 : decode cX5_layRow 2 = .ok (.iload_n 2, 1) := by decide +kernel
theorem dX5_layRow_3 : decode cX5_layRow 3 = .ok (.iconst 1, 1) := by decide +kernel
theorem dX5_layRow_4 : decode cX5_layRow 4 = .ok (.isub, 1) := by decide +kernel
theorem dX5_layRow_5 : decode cX5_layRow 5 = .ok (.istore 4, 2) := by decide +kernel
theorem dX5_layRow_7 : decode cX5_layRow 7 = .ok (.iload 4, 2) := by decide +kernel
theorem dX5_layRow_9 : decode cX5_layRow 9 = .ok (.ifCond .lt 29, 3) := by decide +kernel
theorem dX5_layRow_12 : decode cX5_layRow 12 = .ok (.aload_n 0, 1) := by decide +kernel
theorem dX5_layRow_13 : decode cX5_layRow 13 = .ok (.getfield 37, 3) := by decide +kernel
theorem dX5_layRow_16 : decode cX5_layRow 16 = .ok (.iload 4, 2) := by decide +kernel
theorem dX5_layRow_18 : decode cX5_layRow 18 = .ok (.iload_n 3, 1) := by decide +kernel
theorem dX5_layRow_19 : decode cX5_layRow 19 = .ok (.aload_n 0, 1) := by decide +kernel
theorem dX5_layRow_20 : decode cX5_layRow 20 = .ok (.getfield 59, 3) := by decide +kernel
theorem dX5_layRow_23 : decode cX5_layRow 23 = .ok (.irem, 1) := by decide +kernel
theorem dX5_layRow_24 : decode cX5_layRow 24 = .ok (.iastore, 1) := by decide +kernel
theorem dX5_layRow_25 : decode cX5_layRow 25 = .ok (.iload_n 3, 1) := by decide +kernel
theorem dX5_layRow_26 : decode cX5_layRow 26 = .ok (.aload_n 0, 1) := by decide +kernel
theorem dX5_layRow_27 : decode cX5_layRow 27 = .ok (.getfield 59, 3) := by decide +kernel
theorem dX5_layRow_30 : decode cX5_layRow 30 = .ok (.idiv, 1) := by decide +kernel
theorem dX5_layRow_31 : decode cX5_layRow 31 = .ok (.istore_n 3, 1) := by decide +kernel
theorem dX5_layRow_32 : decode cX5_layRow 32 = .ok (.iinc 4 (-1), 3) := by decide +kernel
theorem dX5_layRow_35 : decode cX5_layRow 35 = .ok (.goto (-28), 3) := by decide +kernel
theorem dX5_layRow_38 : decode cX5_layRow 38 = .ok (.aload_n 0, 1) := by decide +kernel
theorem dX5_layRow_39 : decode cX5_layRow 39 = .ok (.iload_n 2, 1) := by decide +kernel
theorem dX5_layRow_40 : decode cX5_layRow 40 = .ok (.putfield 113, 3) := by decide +kernel
theorem dX5_layRow_43 : decode cX5_layRow 43 = .ok (.return_, 1) := by decide +kernel
set_option maxRecDepth 20000 in
theorem S_X5_layRow_0 {g : GG} {d : Nat} {F : St → Prop} (a1 : Int32) (a2 : Int32) (σ : St) (h : VM g d M_X5_layRow (qV F) 7 [(0, vR 23), (1, vI a1), (2, vI a2), (3, vI a1), (4, vI (a2 - 1))] [] σ) : VM g d M_X5_layRow (qV F) 0 [(0, vR 23), (1, vI a1), (2, vI a2)] [] σ := by
  refine VE_iload_n 1 dX5_layRow_0 (k := ?_)
  refine VE_istore_n (ls' := [(3, vI a1), (0, vR 23), (1, vI a1), (2, vI a2)]) dX5_layRow_1 ?_
  refine VE_iload_n 3 dX5_layRow_2 (k := ?_)
  refine VE_iconst 1 dX5_layRow_3 (k := ?_)
  refine VE_isub dX5_layRow_4 ?_
  refine VE_istore (ls' := [(4, vI (a2 - 1)), (3, vI a1), (0, vR 23), (1, vI a1), (2, vI a2)]) dX5_layRow_5 ?_
  exact VE_sub [2, 3, 4, 1, 0] rfl h
set_option maxRecDepth 20000 in
theorem S_X5_layRow_7 {g : GG} {d : Nat} {F : St → Prop} (x1 : Int32) (x2 : Int32) (x3 : Int32) (x4 : Int32) (σ : St) (h : ((x4 < 0 → F (sU σ 23 15 x2)) ∧ (¬ x4 < 0 → (¬ (σ 23 5) = 0 ∧ (vp_in x4 20 ∧ (¬ (σ 23 5) = 0 ∧ VM g d M_X5_layRow (qV F) 7 [(0, vR 23), (1, vI x1), (2, vI x2), (3, vI (x3 / (σ 23 5))), (4, vI (x4 + (-1)))] [] (sU σ 33 x4.toNatClampNeg (x3 - x3 / (σ 23 5) * (σ 23 5))))))))) : VM g d M_X5_layRow (qV F) 7 [(0, vR 23), (1, vI x1), (2, vI x2), (3, vI x3), (4, vI x4)] [] σ := by
  refine VE_iload 4 dX5_layRow_7 (k := ?_)
  refine VE_if_lt 38 dX5_layRow_9 (fun c1 => ?_) (fun c1 => ?_)
  · refine VE_aload_n 0 dX5_layRow_38 (k := ?_)
    refine VE_iload_n 2 dX5_layRow_39 (k := ?_)
    refine VE_put dX5_layRow_40 fl_X5_113 ?_
    exact VM_vret dX5_layRow_43 (h.1 c1)
  · refine VE_aload_n 0 dX5_layRow_12 (k := ?_)
    refine VE_getR 33 dX5_layRow_13 fl_X5_37 ?_
    refine VE_iload 4 dX5_layRow_16 (k := ?_)
    refine VE_iload_n 3 dX5_layRow_18 (k := ?_)
    refine VE_aload_n 0 dX5_layRow_19 (k := ?_)
    refine VE_getI dX5_layRow_20 fl_X5_59 ?_
    refine VE_irem dX5_layRow_23 (h.2 c1).1 ?_
    refine VE_iast dX5_layRow_24 (h.2 c1).2.1 ?_
    refine VE_iload_n 3 dX5_layRow_25 (k := ?_)
    refine VE_aload_n 0 dX5_layRow_26 (k := ?_)
    refine VE_getI dX5_layRow_27 fl_X5_59 ?_
    refine VE_idiv dX5_layRow_30 (h.2 c1).2.2.1 ?_
    refine VE_istore_n (ls' := [(3, vI (x3 / (σ 23 5))), (0, vR 23), (1, vI x1), (2, vI x2), (4, vI x4)]) dX5_layRow_31 ?_
    refine VE_iinc 4 (x4 + (-1)) (ls' := [(4, vI (x4 + (-1))), (3, vI (x3 / (σ 23 5))), (0, vR 23), (1, vI x1), (2, vI x2)]) dX5_layRow_32 ?_
    refine VE_goto 7 dX5_layRow_35 ?_
    exact VE_sub [2, 3, 4, 1, 0] rfl (h.2 c1).2.2.2
theorem dX5_findPlan_0 : decode cX5_findPlan 0 = .ok (.aload_n 0, 1) := by decide +kernel
theorem dX5_findPlan_1 : decode cX5_findPlan 1 = .ok (.bipush (-9), 2) := by decide +kernel
theorem dX5_findPlan_3 : decode cX5_findPlan 3 = .ok (.putfield 153, 3) := by decide +kernel
theorem dX5_findPlan_6 : decode cX5_findPlan 6 = .ok (.iconst 1, 1) := by decide +kernel
theorem dX5_findPlan_7 : decode cX5_findPlan 7 = .ok (.istore_n 3, 1) := by decide +kernel
theorem dX5_findPlan_8 : decode cX5_findPlan 8 = .ok (.iconst 0, 1) := by decide +kernel
theorem dX5_findPlan_9 : decode cX5_findPlan 9 = .ok (.istore 4, 2) := by decide +kernel
theorem dX5_findPlan_11 : decode cX5_findPlan 11 = .ok (.iload 4, 2) := by decide +kernel
theorem dX5_findPlan_13 : decode cX5_findPlan 13 = .ok (.bipush 6, 2) := by decide +kernel
theorem dX5_findPlan_15 : decode cX5_findPlan 15 = .ok (.if_icmp .gt 65, 3) := by decide +kernel
theorem dX5_findPlan_18 : decode cX5_findPlan 18 = .ok (.iconst 0, 1) := by decide +kernel
theorem dX5_findPlan_19 : decode cX5_findPlan 19 = .ok (.istore 5, 2) := by decide +kernel
theorem dX5_findPlan_21 : decode cX5_findPlan 21 = .ok (.iload 5, 2) := by decide +kernel
theorem dX5_findPlan_23 : decode cX5_findPlan 23 = .ok (.iload_n 3, 1) := by decide +kernel
theorem dX5_findPlan_24 : decode cX5_findPlan 24 = .ok (.if_icmp .ge 43, 3) := by decide +kernel
theorem dX5_findPlan_27 : decode cX5_findPlan 27 = .ok (.aload_n 0, 1) := by decide +kernel
theorem dX5_findPlan_28 : decode cX5_findPlan 28 = .ok (.iload 5, 2) := by decide +kernel
theorem dX5_findPlan_30 : decode cX5_findPlan 30 = .ok (.iload 4, 2) := by decide +kernel
theorem dX5_findPlan_32 : decode cX5_findPlan 32 = .ok (.invokevirtual 156, 3) := by decide +kernel
theorem dX5_findPlan_35 : decode cX5_findPlan 35 = .ok (.aload_n 0, 1) := by decide +kernel
theorem dX5_findPlan_36 : decode cX5_findPlan 36 = .ok (.invokevirtual 131, 3) := by decide +kernel
theorem dX5_findPlan_39 : decode cX5_findPlan 39 = .ok (.bipush (-9), 2) := by decide +kernel
theorem dX5_findPlan_41 : decode cX5_findPlan 41 = .ok (.if_icmp .ne 20, 3) := by decide +kernel
theorem dX5_findPlan_44 : decode cX5_findPlan 44 = .ok (.aload_n 0, 1) := by decide +kernel
theorem dX5_findPlan_45 : decode cX5_findPlan 45 = .ok (.getfield 31, 3) := by decide +kernel
theorem dX5_findPlan_48 : decode cX5_findPlan 48 = .ok (.iload_n 1, 1) := by decide +kernel
theorem dX5_findPlan_49 : decode cX5_findPlan 49 = .ok (.iaload, 1) := by decide +kernel
theorem dX5_findPlan_50 : decode cX5_findPlan 50 = .ok (.iload_n 2, 1) := by decide +kernel
theorem dX5_findPlan_51 : decode cX5_findPlan 51 = .ok (.if_icmp .ne 10, 3) := by decide +kernel
theorem dX5_findPlan_54 : decode cX5_findPlan 54 = .ok (.aload_n 0, 1) := by decide +kernel
theorem dX5_findPlan_55 : decode cX5_findPlan 55 = .ok (.iload 4, 2) := by decide +kernel
theorem dX5_findPlan_57 : decode cX5_findPlan 57 = .ok (.putfield 153, 3) := by decide +kernel
theorem dX5_findPlan_60 : decode cX5_findPlan 60 = .ok (.return_, 1) := by decide +kernel
theorem dX5_findPlan_61 : decode cX5_findPlan 61 = .ok (.iinc 5 1, 3) := by decide +kernel
theorem dX5_findPlan_64 : decode cX5_findPlan 64 = .ok (.goto (-43), 3) := by decide +kernel
theorem dX5_findPlan_67 : decode cX5_findPlan 67 = .ok (.iload_n 3, 1) := by decide +kernel
theorem dX5_findPlan_68 : decode cX5_findPlan 68 = .ok (.aload_n 0, 1) := by decide +kernel
theorem dX5_findPlan_69 : decode cX5_findPlan 69 = .ok (.getfield 59, 3) := by decide +kernel
theorem dX5_findPlan_72 : decode cX5_findPlan 72 = .ok (.imul, 1) := by decide +kernel
theorem dX5_findPlan_73 : decode cX5_findPlan 73 = .ok (.istore_n 3, 1) := by decide +kernel
theorem dX5_findPlan_74 : decode cX5_findPlan 74 = .ok (.iinc 4 1, 3) := by decide +kernel
theorem dX5_findPlan_77 : decode cX5_findPlan 77 = .ok (.goto (-66), 3) := by decide +kernel
theorem dX5_findPlan_80 : decode cX5_findPlan 80 = .ok (.return_, 1) := by decide +kernel
set_option maxRecDepth 20000 in
theorem S_X5_findPlan_0 {g : GG} {d : Nat} {F : St → Prop} (a1 : Int32) (a2 : Int32) (σ : St) (h : VM g (d + 1) M_X5_findPlan (qV F) 11 [(0, vR 23), (1, vI a1), (2, vI a2), (3, vI 1), (4, vI 0)] [] (sU σ 23 17 (-9))) : VM g (d + 1) M_X5_findPlan (qV F) 0 [(0, vR 23), (1, vI a1), (2, vI a2)] [] σ := by
  refine VE_aload_n 0 dX5_findPlan_0 (k := ?_)
  refine VE_bipush (-9) dX5_findPlan_1 (k := ?_)
  refine VE_put dX5_findPlan_3 fl_X5_153 ?_
  refine VE_iconst 1 dX5_findPlan_6 (k := ?_)
  refine VE_istore_n (ls' := [(3, vI 1), (0, vR 23), (1, vI a1), (2, vI a2)]) dX5_findPlan_7 ?_
  refine VE_iconst 0 dX5_findPlan_8 (k := ?_)
  refine VE_istore (ls' := [(4, vI 0), (3, vI 1), (0, vR 23), (1, vI a1), (2, vI a2)]) dX5_findPlan_9 ?_
  exact VE_sub [2, 3, 4, 1, 0] rfl h
set_option maxRecDepth 20000 in
theorem S_X5_findPlan_11 {g : GG} {d : Nat} {F : St → Prop} (x1 : Int32) (x2 : Int32) (x3 : Int32) (x4 : Int32) (σ : St) (h : ((6 < x4 → F σ) ∧ (¬ 6 < x4 → VM g (d + 1) M_X5_findPlan (qV F) 21 [(0, vR 23), (1, vI x1), (2, vI x2), (3, vI x3), (4, vI x4), (5, vI 0)] [] σ))) : VM g (d + 1) M_X5_findPlan (qV F) 11 [(0, vR 23), (1, vI x1), (2, vI x2), (3, vI x3), (4, vI x4)] [] σ := by
  refine VE_iload 4 dX5_findPlan_11 (k := ?_)
  refine VE_bipush 6 dX5_findPlan_13 (k := ?_)
  refine VE_icmp_gt 80 dX5_findPlan_15 (fun c1 => ?_) (fun c1 => ?_)
  · exact VM_vret dX5_findPlan_80 (h.1 c1)
  · refine VE_iconst 0 dX5_findPlan_18 (k := ?_)
    refine VE_istore (ls' := [(5, vI 0), (0, vR 23), (1, vI x1), (2, vI x2), (3, vI x3), (4, vI x4)]) dX5_findPlan_19 ?_
    exact VE_sub [1, 2, 3, 4, 5, 0] rfl (h.2 c1)
set_option maxRecDepth 20000 in
theorem S_X5_findPlan_21 {g : GG} {d : Nat} {F : St → Prop} (x1 : Int32) (x2 : Int32) (x3 : Int32) (x4 : Int32) (x5 : Int32) (σ : St) (h : ((x3 ≤ x5 → VM g (d + 1) M_X5_findPlan (qV F) 11 [(0, vR 23), (1, vI x1), (2, vI x2), (3, vI (x3 * (σ 23 5))), (4, vI (x4 + 1))] [] σ) ∧ (¬ x3 ≤ x5 → (ME g d M_X5_layRow [vR 23, vI x5, vI x4] σ (qV (fun σ3 => (ME g d M_X5_go [vR 23] σ3 (qI (fun r5 σ6 => ((¬ r5 = (-9) → VM g (d + 1) M_X5_findPlan (qV F) 21 [(0, vR 23), (1, vI x1), (2, vI x2), (3, vI x3), (4, vI x4), (5, vI (x5 + 1))] [] σ6) ∧ (r5 = (-9) → (vp_in x1 5 ∧ ((¬ (σ6 31 x1.toNatClampNeg) = x2 → VM g (d + 1) M_X5_findPlan (qV F) 21 [(0, vR 23), (1, vI x1), (2, vI x2), (3, vI x3), (4, vI x4), (5, vI (x5 + 1))] [] σ6) ∧ ((σ6 31 x1.toNatClampNeg) = x2 → F (sU σ6 23 17 x4))))))))))))))) : VM g (d + 1) M_X5_findPlan (qV F) 21 [(0, vR 23), (1, vI x1), (2, vI x2), (3, vI x3), (4, vI x4), (5, vI x5)] [] σ := by
  refine VE_iload 5 dX5_findPlan_21 (k := ?_)
  refine VE_iload_n 3 dX5_findPlan_23 (k := ?_)
  refine VE_icmp_ge 67 dX5_findPlan_24 (fun c1 => ?_) (fun c1 => ?_)
  · refine VE_iload_n 3 dX5_findPlan_67 (k := ?_)
    refine VE_aload_n 0 dX5_findPlan_68 (k := ?_)
    refine VE_getI dX5_findPlan_69 fl_X5_59 ?_
    refine VE_imul dX5_findPlan_72 ?_
    refine VE_istore_n (ls' := [(3, vI (x3 * (σ 23 5))), (0, vR 23), (1, vI x1), (2, vI x2), (4, vI x4), (5, vI x5)]) dX5_findPlan_73 ?_
    refine VE_iinc 4 (x4 + 1) (ls' := [(4, vI (x4 + 1)), (3, vI (x3 * (σ 23 5))), (0, vR 23), (1, vI x1), (2, vI x2), (5, vI x5)]) dX5_findPlan_74 ?_
    refine VE_goto 11 dX5_findPlan_77 ?_
    exact VE_sub [2, 3, 4, 1, 0] rfl (h.1 c1)
  · refine VE_aload_n 0 dX5_findPlan_27 (k := ?_)
    refine VE_iload 5 dX5_findPlan_28 (k := ?_)
    refine VE_iload 4 dX5_findPlan_30 (k := ?_)
    refine VE_cVv [vI x5, vI x4] dX5_findPlan_32 ml_X5_156 (h.2 c1) (fun σ3 h4 => ?_) (rok_D d)
    refine VE_aload_n 0 dX5_findPlan_35 (k := ?_)
    refine VE_cVi [] dX5_findPlan_36 ml_X5_131 h4 (fun r5 σ6 h7 => ?_) (rok_D d)
    refine VE_bipush (-9) dX5_findPlan_39 (k := ?_)
    refine VE_icmp_ne 61 dX5_findPlan_41 (fun c8 => ?_) (fun c8 => ?_)
    · refine VE_iinc 5 (x5 + 1) (ls' := [(5, vI (x5 + 1)), (0, vR 23), (1, vI x1), (2, vI x2), (3, vI x3), (4, vI x4)]) dX5_findPlan_61 ?_
      refine VE_goto 21 dX5_findPlan_64 ?_
      exact VE_sub [1, 2, 3, 4, 5, 0] rfl (h7.1 c8)
    · refine VE_aload_n 0 dX5_findPlan_44 (k := ?_)
      refine VE_getR 31 dX5_findPlan_45 fl_X5_31 ?_
      refine VE_iload_n 1 dX5_findPlan_48 (k := ?_)
      refine VE_iald dX5_findPlan_49 (h7.2 c8).1 ?_
      refine VE_iload_n 2 dX5_findPlan_50 (k := ?_)
      refine VE_icmp_ne 61 dX5_findPlan_51 (fun c9 => ?_) (fun c9 => ?_)
      · refine VE_iinc 5 (x5 + 1) (ls' := [(5, vI (x5 + 1)), (0, vR 23), (1, vI x1), (2, vI x2), (3, vI x3), (4, vI x4)]) dX5_findPlan_61 ?_
        refine VE_goto 21 dX5_findPlan_64 ?_
        exact VE_sub [1, 2, 3, 4, 5, 0] rfl ((h7.2 c8).2.1 c9)
      · refine VE_aload_n 0 dX5_findPlan_54 (k := ?_)
        refine VE_iload 4 dX5_findPlan_55 (k := ?_)
        refine VE_put dX5_findPlan_57 fl_X5_153 ?_
        exact VM_vret dX5_findPlan_60 ((h7.2 c8).2.2 c9)
theorem dX5_plan_0 : decode cX5_plan 0 = .ok (.aload_n 0, 1) := by decide +kernel
theorem dX5_plan_1 : decode cX5_plan 1 = .ok (.iload_n 1, 1) := by decide +kernel
theorem dX5_plan_2 : decode cX5_plan 2 = .ok (.invokevirtual 100, 3) := by decide +kernel
theorem dX5_plan_5 : decode cX5_plan 5 = .ok (.ifCond .eq 11, 3) := by decide +kernel
theorem dX5_plan_8 : decode cX5_plan 8 = .ok (.aload_n 0, 1) := by decide +kernel
theorem dX5_plan_9 : decode cX5_plan 9 = .ok (.iload_n 2, 1) := by decide +kernel
theorem dX5_plan_10 : decode cX5_plan 10 = .ok (.invokevirtual 100, 3) := by decide +kernel
theorem dX5_plan_13 : decode cX5_plan 13 = .ok (.ifCond .ne 5, 3) := by decide +kernel
theorem dX5_plan_16 : decode cX5_plan 16 = .ok (.iconst (-1), 1) := by decide +kernel
theorem dX5_plan_17 : decode cX5_plan 17 = .ok (.ireturn, 1) := by decide +kernel
theorem dX5_plan_18 : decode cX5_plan 18 = .ok (.iload_n 3, 1) := by decide +kernel
theorem dX5_plan_19 : decode cX5_plan 19 = .ok (.iconst (-1), 1) := by decide +kernel
theorem dX5_plan_20 : decode cX5_plan 20 = .ok (.iconst 5, 1) := by decide +kernel
theorem dX5_plan_21 : decode cX5_plan 21 = .ok (.invokestatic 55, 3) := by decide +kernel
theorem dX5_plan_24 : decode cX5_plan 24 = .ok (.ifCond .ne 6, 3) := by decide +kernel
theorem dX5_plan_27 : decode cX5_plan 27 = .ok (.bipush (-2), 2) := by decide +kernel
theorem dX5_plan_29 : decode cX5_plan 29 = .ok (.ireturn, 1) := by decide +kernel
theorem dX5_plan_30 : decode cX5_plan 30 = .ok (.aload_n 0, 1) := by decide +kernel
theorem dX5_plan_31 : decode cX5_plan 31 = .ok (.iload_n 1, 1) := by decide +kernel
theorem dX5_plan_32 : decode cX5_plan 32 = .ok (.iload_n 2, 1) := by decide +kernel
theorem dX5_plan_33 : decode cX5_plan 33 = .ok (.invokevirtual 160, 3) := by decide +kernel
theorem dX5_plan_36 : decode cX5_plan 36 = .ok (.iload_n 3, 1) := by decide +kernel
theorem dX5_plan_37 : decode cX5_plan 37 = .ok (.iconst (-1), 1) := by decide +kernel
theorem dX5_plan_38 : decode cX5_plan 38 = .ok (.if_icmp .ne 10, 3) := by decide +kernel
theorem dX5_plan_41 : decode cX5_plan 41 = .ok (.aload_n 0, 1) := by decide +kernel
theorem dX5_plan_42 : decode cX5_plan 42 = .ok (.getfield 153, 3) := by decide +kernel
theorem dX5_plan_45 : decode cX5_plan 45 = .ok (.goto 22, 3) := by decide +kernel
theorem dX5_plan_48 : decode cX5_plan 48 = .ok (.iload_n 3, 1) := by decide +kernel
theorem dX5_plan_49 : decode cX5_plan 49 = .ok (.aload_n 0, 1) := by decide +kernel
theorem dX5_plan_50 : decode cX5_plan 50 = .ok (.getfield 153, 3) := by decide +kernel
theorem dX5_plan_53 : decode cX5_plan 53 = .ok (.if_icmp .ge 12, 3) := by decide +kernel
theorem dX5_plan_56 : decode cX5_plan 56 = .ok (.aload_n 0, 1) := by decide +kernel
theorem dX5_plan_57 : decode cX5_plan 57 = .ok (.getfield 37, 3) := by decide +kernel
theorem dX5_plan_60 : decode cX5_plan 60 = .ok (.iload_n 3, 1) := by decide +kernel
theorem dX5_plan_61 : decode cX5_plan 61 = .ok (.iaload, 1) := by decide +kernel
theorem dX5_plan_62 : decode cX5_plan 62 = .ok (.goto 5, 3) := by decide +kernel
theorem dX5_plan_65 : decode cX5_plan 65 = .ok (.bipush (-9), 2) := by decide +kernel
theorem dX5_plan_67 : decode cX5_plan 67 = .ok (.ireturn, 1) := by decide +kernel
set_option maxRecDepth 20000 in
theorem S_X5_plan_0 {g : GG} {d : Nat} {F : Int32 → St → Prop} (a1 : Int32) (a2 : Int32) (a3 : Int32) (σ : St) (h : (ME g d M_X5_isHead [vR 23, vI a1] σ (qI (fun r1 σ2 => ((r1 = 0 → F (-1) σ2) ∧ (¬ r1 = 0 → (ME g d M_X5_isHead [vR 23, vI a2] σ2 (qI (fun r5 σ6 => ((¬ r5 = 0 → (ME g d M_X5_within [vI a3, vI (-1), vI 5] σ6 (qI (fun r9 σ10 => ((¬ r9 = 0 → (ME g d M_X5_findPlan [vR 23, vI a1, vI a2] σ10 (qV (fun σ14 => ((¬ a3 = (-1) → (((σ14 23 17) ≤ a3 → F (-9) σ14) ∧ (¬ (σ14 23 17) ≤ a3 → (vp_in a3 20 ∧ F (σ14 33 a3.toNatClampNeg) σ14)))) ∧ (a3 = (-1) → F (σ14 23 17) σ14)))))) ∧ (r9 = 0 → F (-2) σ10)))))) ∧ (r5 = 0 → F (-1) σ6))))))))))) : VM g (d + 1) M_X5_plan (qI F) 0 [(0, vR 23), (1, vI a1), (2, vI a2), (3, vI a3)] [] σ := by
  refine VE_aload_n 0 dX5_plan_0 (k := ?_)
  refine VE_iload_n 1 dX5_plan_1 (k := ?_)
  refine VE_cVi [vI a1] dX5_plan_2 ml_X5_100 h (fun r1 σ2 h3 => ?_) (rok_D d)
  refine VE_if_eq 16 dX5_plan_5 (fun c4 => ?_) (fun c4 => ?_)
  · refine VE_iconst (-1) dX5_plan_16 (k := ?_)
    exact VM_iret dX5_plan_17 (h3.1 c4)
  · refine VE_aload_n 0 dX5_plan_8 (k := ?_)
    refine VE_iload_n 2 dX5_plan_9 (k := ?_)
    refine VE_cVi [vI a2] dX5_plan_10 ml_X5_100 (h3.2 c4) (fun r5 σ6 h7 => ?_) (rok_D d)
    refine VE_if_ne 18 dX5_plan_13 (fun c8 => ?_) (fun c8 => ?_)
    · refine VE_iload_n 3 dX5_plan_18 (k := ?_)
      refine VE_iconst (-1) dX5_plan_19 (k := ?_)
      refine VE_iconst 5 dX5_plan_20 (k := ?_)
      refine VE_cSi [vI a3, vI (-1), vI 5] dX5_plan_21 ml_X5_55 (h7.1 c8) (fun r9 σ10 h11 => ?_) (rok_D d)
      refine VE_if_ne 30 dX5_plan_24 (fun c12 => ?_) (fun c12 => ?_)
      · refine VE_aload_n 0 dX5_plan_30 (k := ?_)
        refine VE_iload_n 1 dX5_plan_31 (k := ?_)
        refine VE_iload_n 2 dX5_plan_32 (k := ?_)
        refine VE_cVv [vI a1, vI a2] dX5_plan_33 ml_X5_160 (h11.1 c12) (fun σ14 h15 => ?_) (rok_D d)
        refine VE_iload_n 3 dX5_plan_36 (k := ?_)
        refine VE_iconst (-1) dX5_plan_37 (k := ?_)
        refine VE_icmp_ne 48 dX5_plan_38 (fun c16 => ?_) (fun c16 => ?_)
        · refine VE_iload_n 3 dX5_plan_48 (k := ?_)
          refine VE_aload_n 0 dX5_plan_49 (k := ?_)
          refine VE_getI dX5_plan_50 fl_X5_153 ?_
          refine VE_icmp_ge 65 dX5_plan_53 (fun c17 => ?_) (fun c17 => ?_)
          · refine VE_bipush (-9) dX5_plan_65 (k := ?_)
            exact VM_iret dX5_plan_67 ((h15.1 c16).1 c17)
          · refine VE_aload_n 0 dX5_plan_56 (k := ?_)
            refine VE_getR 33 dX5_plan_57 fl_X5_37 ?_
            refine VE_iload_n 3 dX5_plan_60 (k := ?_)
            refine VE_iald dX5_plan_61 ((h15.1 c16).2 c17).1 ?_
            refine VE_goto 67 dX5_plan_62 ?_
            exact VM_iret dX5_plan_67 ((h15.1 c16).2 c17).2
        · refine VE_aload_n 0 dX5_plan_41 (k := ?_)
          refine VE_getI dX5_plan_42 fl_X5_153 ?_
          refine VE_goto 67 dX5_plan_45 ?_
          exact VM_iret dX5_plan_67 (h15.2 c16)
      · refine VE_bipush (-2) dX5_plan_27 (k := ?_)
        exact VM_iret dX5_plan_29 (h11.2 c12)
    · refine VE_iconst (-1) dX5_plan_16 (k := ?_)
      exact VM_iret dX5_plan_17 (h7.2 c8)
theorem dX5_reading_0 : decode cX5_reading 0 = .ok (.aload_n 0, 1) := by decide +kernel
theorem dX5_reading_1 : decode cX5_reading 1 = .ok (.iload_n 2, 1) := by decide +kernel
theorem dX5_reading_2 : decode cX5_reading 2 = .ok (.invokevirtual 100, 3) := by decide +kernel
theorem dX5_reading_5 : decode cX5_reading 5 = .ok (.ifCond .eq 17, 3) := by decide +kernel
theorem dX5_reading_8 : decode cX5_reading 8 = .ok (.iload_n 3, 1) := by decide +kernel
theorem dX5_reading_9 : decode cX5_reading 9 = .ok (.bipush (-9), 2) := by decide +kernel
theorem dX5_reading_11 : decode cX5_reading 11 = .ok (.if_icmp .eq 13, 3) := by decide +kernel
theorem dX5_reading_14 : decode cX5_reading 14 = .ok (.aload_n 0, 1) := by decide +kernel
theorem dX5_reading_15 : decode cX5_reading 15 = .ok (.iload_n 3, 1) := by decide +kernel
theorem dX5_reading_16 : decode cX5_reading 16 = .ok (.invokevirtual 100, 3) := by decide +kernel
theorem dX5_reading_19 : decode cX5_reading 19 = .ok (.ifCond .ne 5, 3) := by decide +kernel
theorem dX5_reading_22 : decode cX5_reading 22 = .ok (.iconst (-1), 1) := by decide +kernel
theorem dX5_reading_23 : decode cX5_reading 23 = .ok (.ireturn, 1) := by decide +kernel
theorem dX5_reading_24 : decode cX5_reading 24 = .ok (.iload_n 1, 1) := by decide +kernel
theorem dX5_reading_25 : decode cX5_reading 25 = .ok (.iconst 0, 1) := by decide +kernel
theorem dX5_reading_26 : decode cX5_reading 26 = .ok (.bipush 20, 2) := by decide +kernel
theorem dX5_reading_28 : decode cX5_reading 28 = .ok (.invokestatic 55, 3) := by decide +kernel
theorem dX5_reading_31 : decode cX5_reading 31 = .ok (.ifCond .ne 6, 3) := by decide +kernel
theorem dX5_reading_34 : decode cX5_reading 34 = .ok (.bipush (-2), 2) := by decide +kernel
theorem dX5_reading_36 : decode cX5_reading 36 = .ok (.ireturn, 1) := by decide +kernel
theorem dX5_reading_37 : decode cX5_reading 37 = .ok (.aload_n 0, 1) := by decide +kernel
theorem dX5_reading_38 : decode cX5_reading 38 = .ok (.getfield 86, 3) := by decide +kernel
theorem dX5_reading_41 : decode cX5_reading 41 = .ok (.bipush 8, 2) := by decide +kernel
theorem dX5_reading_43 : decode cX5_reading 43 = .ok (.if_icmp .ne 6, 3) := by decide +kernel
theorem dX5_reading_46 : decode cX5_reading 46 = .ok (.bipush (-4), 2) := by decide +kernel
theorem dX5_reading_48 : decode cX5_reading 48 = .ok (.ireturn, 1) := by decide +kernel
theorem dX5_reading_49 : decode cX5_reading 49 = .ok (.aload_n 0, 1) := by decide +kernel
theorem dX5_reading_50 : decode cX5_reading 50 = .ok (.getfield 40, 3) := by decide +kernel
theorem dX5_reading_53 : decode cX5_reading 53 = .ok (.aload_n 0, 1) := by decide +kernel
theorem dX5_reading_54 : decode cX5_reading 54 = .ok (.getfield 86, 3) := by decide +kernel
theorem dX5_reading_57 : decode cX5_reading 57 = .ok (.iload_n 1, 1) := by decide +kernel
theorem dX5_reading_58 : decode cX5_reading 58 = .ok (.iastore, 1) := by decide +kernel
theorem dX5_reading_59 : decode cX5_reading 59 = .ok (.aload_n 0, 1) := by decide +kernel
theorem dX5_reading_60 : decode cX5_reading 60 = .ok (.getfield 43, 3) := by decide +kernel
theorem dX5_reading_63 : decode cX5_reading 63 = .ok (.aload_n 0, 1) := by decide +kernel
theorem dX5_reading_64 : decode cX5_reading 64 = .ok (.getfield 86, 3) := by decide +kernel
theorem dX5_reading_67 : decode cX5_reading 67 = .ok (.iload_n 2, 1) := by decide +kernel
theorem dX5_reading_68 : decode cX5_reading 68 = .ok (.iastore, 1) := by decide +kernel
theorem dX5_reading_69 : decode cX5_reading 69 = .ok (.aload_n 0, 1) := by decide +kernel
theorem dX5_reading_70 : decode cX5_reading 70 = .ok (.getfield 46, 3) := by decide +kernel
theorem dX5_reading_73 : decode cX5_reading 73 = .ok (.aload_n 0, 1) := by decide +kernel
theorem dX5_reading_74 : decode cX5_reading 74 = .ok (.getfield 86, 3) := by decide +kernel
theorem dX5_reading_77 : decode cX5_reading 77 = .ok (.iload_n 3, 1) := by decide +kernel
theorem dX5_reading_78 : decode cX5_reading 78 = .ok (.iastore, 1) := by decide +kernel
theorem dX5_reading_79 : decode cX5_reading 79 = .ok (.aload_n 0, 1) := by decide +kernel
theorem dX5_reading_80 : decode cX5_reading 80 = .ok (.dup, 1) := by decide +kernel
theorem dX5_reading_81 : decode cX5_reading 81 = .ok (.getfield 86, 3) := by decide +kernel
theorem dX5_reading_84 : decode cX5_reading 84 = .ok (.iconst 1, 1) := by decide +kernel
theorem dX5_reading_85 : decode cX5_reading 85 = .ok (.iadd, 1) := by decide +kernel
theorem dX5_reading_86 : decode cX5_reading 86 = .ok (.putfield 86, 3) := by decide +kernel
theorem dX5_reading_89 : decode cX5_reading 89 = .ok (.aload_n 0, 1) := by decide +kernel
theorem dX5_reading_90 : decode cX5_reading 90 = .ok (.getfield 86, 3) := by decide +kernel
theorem dX5_reading_93 : decode cX5_reading 93 = .ok (.iconst 1, 1) := by decide +kernel
theorem dX5_reading_94 : decode cX5_reading 94 = .ok (.isub, 1) := by decide +kernel
theorem dX5_reading_95 : decode cX5_reading 95 = .ok (.ireturn, 1) := by decide +kernel
set_option maxRecDepth 20000 in
theorem S_X5_reading_0 {g : GG} {d : Nat} {F : Int32 → St → Prop} (a1 : Int32) (a2 : Int32) (a3 : Int32) (σ : St) (h : (ME g d M_X5_isHead [vR 23, vI a2] σ (qI (fun r1 σ2 => ((r1 = 0 → F (-1) σ2) ∧ (¬ r1 = 0 → ((a3 = (-9) → (ME g d M_X5_within [vI a1, vI 0, vI 20] σ2 (qI (fun r6 σ7 => ((¬ r6 = 0 → ((¬ (σ7 23 18) = 8 → (vp_in (σ7 23 18) 8 ∧ F (((σ7 23 18) + 1) - 1) (sU (sU (sU (sU σ7 34 ((σ7 23 18).toNatClampNeg) a1) 35 ((σ7 23 18).toNatClampNeg) a2) 36 ((σ7 23 18).toNatClampNeg) a3) 23 18 ((σ7 23 18) + 1)))) ∧ ((σ7 23 18) = 8 → F (-4) σ7))) ∧ (r6 = 0 → F (-2) σ7)))))) ∧ (¬ a3 = (-9) → (ME g d M_X5_isHead [vR 23, vI a3] σ2 (qI (fun r11 σ12 => ((¬ r11 = 0 → (ME g d M_X5_within [vI a1, vI 0, vI 20] σ12 (qI (fun r15 σ16 => ((¬ r15 = 0 → ((¬ (σ16 23 18) = 8 → (vp_in (σ16 23 18) 8 ∧ F (((σ16 23 18) + 1) - 1) (sU (sU (sU (sU σ16 34 ((σ16 23 18).toNatClampNeg) a1) 35 ((σ16 23 18).toNatClampNeg) a2) 36 ((σ16 23 18).toNatClampNeg) a3) 23 18 ((σ16 23 18) + 1)))) ∧ ((σ16 23 18) = 8 → F (-4) σ16))) ∧ (r15 = 0 → F (-2) σ16)))))) ∧ (r11 = 0 → F (-1) σ12))))))))))))) : VM g (d + 1) M_X5_reading (qI F) 0 [(0, vR 23), (1, vI a1), (2, vI a2), (3, vI a3)] [] σ := by
  refine VE_aload_n 0 dX5_reading_0 (k := ?_)
  refine VE_iload_n 2 dX5_reading_1 (k := ?_)
  refine VE_cVi [vI a2] dX5_reading_2 ml_X5_100 h (fun r1 σ2 h3 => ?_) (rok_D d)
  refine VE_if_eq 22 dX5_reading_5 (fun c4 => ?_) (fun c4 => ?_)
  · refine VE_iconst (-1) dX5_reading_22 (k := ?_)
    exact VM_iret dX5_reading_23 (h3.1 c4)
  · refine VE_iload_n 3 dX5_reading_8 (k := ?_)
    refine VE_bipush (-9) dX5_reading_9 (k := ?_)
    refine VE_icmp_eq 24 dX5_reading_11 (fun c5 => ?_) (fun c5 => ?_)
    · refine VE_iload_n 1 dX5_reading_24 (k := ?_)
      refine VE_iconst 0 dX5_reading_25 (k := ?_)
      refine VE_bipush 20 dX5_reading_26 (k := ?_)
      refine VE_cSi [vI a1, vI 0, vI 20] dX5_reading_28 ml_X5_55 ((h3.2 c4).1 c5) (fun r6 σ7 h8 => ?_) (rok_D d)
      refine VE_if_ne 37 dX5_reading_31 (fun c9 => ?_) (fun c9 => ?_)
      · refine VE_aload_n 0 dX5_reading_37 (k := ?_)
        refine VE_getI dX5_reading_38 fl_X5_86 ?_
        refine VE_bipush 8 dX5_reading_41 (k := ?_)
        refine VE_icmp_ne 49 dX5_reading_43 (fun c10 => ?_) (fun c10 => ?_)
        · refine VE_aload_n 0 dX5_reading_49 (k := ?_)
          refine VE_getR 34 dX5_reading_50 fl_X5_40 ?_
          refine VE_aload_n 0 dX5_reading_53 (k := ?_)
          refine VE_getI dX5_reading_54 fl_X5_86 ?_
          refine VE_iload_n 1 dX5_reading_57 (k := ?_)
          refine VE_iast dX5_reading_58 ((h8.1 c9).1 c10).1 ?_
          refine VE_aload_n 0 dX5_reading_59 (k := ?_)
          refine VE_getR 35 dX5_reading_60 fl_X5_43 ?_
          refine VE_aload_n 0 dX5_reading_63 (k := ?_)
          refine VE_getI dX5_reading_64 fl_X5_86 ?_
          refine VE_iload_n 2 dX5_reading_67 (k := ?_)
          refine VE_iast dX5_reading_68 ((h8.1 c9).1 c10).1 ?_
          refine VE_aload_n 0 dX5_reading_69 (k := ?_)
          refine VE_getR 36 dX5_reading_70 fl_X5_46 ?_
          refine VE_aload_n 0 dX5_reading_73 (k := ?_)
          refine VE_getI dX5_reading_74 fl_X5_86 ?_
          refine VE_iload_n 3 dX5_reading_77 (k := ?_)
          refine VE_iast dX5_reading_78 ((h8.1 c9).1 c10).1 ?_
          refine VE_aload_n 0 dX5_reading_79 (k := ?_)
          refine VE_dup dX5_reading_80 (k := ?_)
          refine VE_getI dX5_reading_81 fl_X5_86 ?_
          refine VE_iconst 1 dX5_reading_84 (k := ?_)
          refine VE_iadd dX5_reading_85 ?_
          refine VE_put dX5_reading_86 fl_X5_86 ?_
          refine VE_aload_n 0 dX5_reading_89 (k := ?_)
          refine VE_getI dX5_reading_90 fl_X5_86 ?_
          refine VE_iconst 1 dX5_reading_93 (k := ?_)
          refine VE_isub dX5_reading_94 ?_
          exact VM_iret dX5_reading_95 ((h8.1 c9).1 c10).2
        · refine VE_bipush (-4) dX5_reading_46 (k := ?_)
          exact VM_iret dX5_reading_48 ((h8.1 c9).2 c10)
      · refine VE_bipush (-2) dX5_reading_34 (k := ?_)
        exact VM_iret dX5_reading_36 (h8.2 c9)
    · refine VE_aload_n 0 dX5_reading_14 (k := ?_)
      refine VE_iload_n 3 dX5_reading_15 (k := ?_)
      refine VE_cVi [vI a3] dX5_reading_16 ml_X5_100 ((h3.2 c4).2 c5) (fun r11 σ12 h13 => ?_) (rok_D d)
      refine VE_if_ne 24 dX5_reading_19 (fun c14 => ?_) (fun c14 => ?_)
      · refine VE_iload_n 1 dX5_reading_24 (k := ?_)
        refine VE_iconst 0 dX5_reading_25 (k := ?_)
        refine VE_bipush 20 dX5_reading_26 (k := ?_)
        refine VE_cSi [vI a1, vI 0, vI 20] dX5_reading_28 ml_X5_55 (h13.1 c14) (fun r15 σ16 h17 => ?_) (rok_D d)
        refine VE_if_ne 37 dX5_reading_31 (fun c18 => ?_) (fun c18 => ?_)
        · refine VE_aload_n 0 dX5_reading_37 (k := ?_)
          refine VE_getI dX5_reading_38 fl_X5_86 ?_
          refine VE_bipush 8 dX5_reading_41 (k := ?_)
          refine VE_icmp_ne 49 dX5_reading_43 (fun c19 => ?_) (fun c19 => ?_)
          · refine VE_aload_n 0 dX5_reading_49 (k := ?_)
            refine VE_getR 34 dX5_reading_50 fl_X5_40 ?_
            refine VE_aload_n 0 dX5_reading_53 (k := ?_)
            refine VE_getI dX5_reading_54 fl_X5_86 ?_
            refine VE_iload_n 1 dX5_reading_57 (k := ?_)
            refine VE_iast dX5_reading_58 ((h17.1 c18).1 c19).1 ?_
            refine VE_aload_n 0 dX5_reading_59 (k := ?_)
            refine VE_getR 35 dX5_reading_60 fl_X5_43 ?_
            refine VE_aload_n 0 dX5_reading_63 (k := ?_)
            refine VE_getI dX5_reading_64 fl_X5_86 ?_
            refine VE_iload_n 2 dX5_reading_67 (k := ?_)
            refine VE_iast dX5_reading_68 ((h17.1 c18).1 c19).1 ?_
            refine VE_aload_n 0 dX5_reading_69 (k := ?_)
            refine VE_getR 36 dX5_reading_70 fl_X5_46 ?_
            refine VE_aload_n 0 dX5_reading_73 (k := ?_)
            refine VE_getI dX5_reading_74 fl_X5_86 ?_
            refine VE_iload_n 3 dX5_reading_77 (k := ?_)
            refine VE_iast dX5_reading_78 ((h17.1 c18).1 c19).1 ?_
            refine VE_aload_n 0 dX5_reading_79 (k := ?_)
            refine VE_dup dX5_reading_80 (k := ?_)
            refine VE_getI dX5_reading_81 fl_X5_86 ?_
            refine VE_iconst 1 dX5_reading_84 (k := ?_)
            refine VE_iadd dX5_reading_85 ?_
            refine VE_put dX5_reading_86 fl_X5_86 ?_
            refine VE_aload_n 0 dX5_reading_89 (k := ?_)
            refine VE_getI dX5_reading_90 fl_X5_86 ?_
            refine VE_iconst 1 dX5_reading_93 (k := ?_)
            refine VE_isub dX5_reading_94 ?_
            exact VM_iret dX5_reading_95 ((h17.1 c18).1 c19).2
          · refine VE_bipush (-4) dX5_reading_46 (k := ?_)
            exact VM_iret dX5_reading_48 ((h17.1 c18).2 c19)
        · refine VE_bipush (-2) dX5_reading_34 (k := ?_)
          exact VM_iret dX5_reading_36 (h17.2 c18)
      · refine VE_iconst (-1) dX5_reading_22 (k := ?_)
        exact VM_iret dX5_reading_23 (h13.2 c14)
theorem dX5_back_0 : decode cX5_back 0 = .ok (.iload_n 1, 1) := by decide +kernel
theorem dX5_back_1 : decode cX5_back 1 = .ok (.iconst 0, 1) := by decide +kernel
theorem dX5_back_2 : decode cX5_back 2 = .ok (.aload_n 0, 1) := by decide +kernel
theorem dX5_back_3 : decode cX5_back 3 = .ok (.getfield 86, 3) := by decide +kernel
theorem dX5_back_6 : decode cX5_back 6 = .ok (.invokestatic 55, 3) := by decide +kernel
theorem dX5_back_9 : decode cX5_back 9 = .ok (.ifCond .ne 6, 3) := by decide +kernel
theorem dX5_back_12 : decode cX5_back 12 = .ok (.bipush (-2), 2) := by decide +kernel
theorem dX5_back_14 : decode cX5_back 14 = .ok (.ireturn, 1) := by decide +kernel
theorem dX5_back_15 : decode cX5_back 15 = .ok (.aload_n 0, 1) := by decide +kernel
theorem dX5_back_16 : decode cX5_back 16 = .ok (.dup, 1) := by decide +kernel
theorem dX5_back_17 : decode cX5_back 17 = .ok (.getfield 86, 3) := by decide +kernel
theorem dX5_back_20 : decode cX5_back 20 = .ok (.iload_n 1, 1) := by decide +kernel
theorem dX5_back_21 : decode cX5_back 21 = .ok (.isub, 1) := by decide +kernel
theorem dX5_back_22 : decode cX5_back 22 = .ok (.putfield 86, 3) := by decide +kernel
theorem dX5_back_25 : decode cX5_back 25 = .ok (.aload_n 0, 1) := by decide +kernel
theorem dX5_back_26 : decode cX5_back 26 = .ok (.getfield 86, 3) := by decide +kernel
theorem dX5_back_29 : decode cX5_back 29 = .ok (.ireturn, 1) := by decide +kernel
set_option maxRecDepth 20000 in
theorem S_X5_back_0 {g : GG} {d : Nat} {F : Int32 → St → Prop} (a1 : Int32) (σ : St) (h : (ME g d M_X5_within [vI a1, vI 0, vI (σ 23 18)] σ (qI (fun r1 σ2 => ((¬ r1 = 0 → F ((σ2 23 18) - a1) (sU σ2 23 18 ((σ2 23 18) - a1))) ∧ (r1 = 0 → F (-2) σ2)))))) : VM g (d + 1) M_X5_back (qI F) 0 [(0, vR 23), (1, vI a1)] [] σ := by
  refine VE_iload_n 1 dX5_back_0 (k := ?_)
  refine VE_iconst 0 dX5_back_1 (k := ?_)
  refine VE_aload_n 0 dX5_back_2 (k := ?_)
  refine VE_getI dX5_back_3 fl_X5_86 ?_
  refine VE_cSi [vI a1, vI 0, vI (σ 23 18)] dX5_back_6 ml_X5_55 h (fun r1 σ2 h3 => ?_) (rok_D d)
  refine VE_if_ne 15 dX5_back_9 (fun c4 => ?_) (fun c4 => ?_)
  · refine VE_aload_n 0 dX5_back_15 (k := ?_)
    refine VE_dup dX5_back_16 (k := ?_)
    refine VE_getI dX5_back_17 fl_X5_86 ?_
    refine VE_iload_n 1 dX5_back_20 (k := ?_)
    refine VE_isub dX5_back_21 ?_
    refine VE_put dX5_back_22 fl_X5_86 ?_
    refine VE_aload_n 0 dX5_back_25 (k := ?_)
    refine VE_getI dX5_back_26 fl_X5_86 ?_
    exact VM_iret dX5_back_29 (h3.1 c4)
  · refine VE_bipush (-2) dX5_back_12 (k := ?_)
    exact VM_iret dX5_back_14 (h3.2 c4)
theorem dX5_areSoBehind_0 : decode cX5_areSoBehind 0 = .ok (.iconst 0, 1) := by decide +kernel
theorem dX5_areSoBehind_1 : decode cX5_areSoBehind 1 = .ok (.istore_n 2, 1) := by decide +kernel
theorem dX5_areSoBehind_2 : decode cX5_areSoBehind 2 = .ok (.iload_n 2, 1) := by decide +kernel
theorem dX5_areSoBehind_3 : decode cX5_areSoBehind 3 = .ok (.aload_n 0, 1) := by decide +kernel
theorem dX5_areSoBehind_4 : decode cX5_areSoBehind 4 = .ok (.getfield 86, 3) := by decide +kernel
theorem dX5_areSoBehind_7 : decode cX5_areSoBehind 7 = .ok (.if_icmp .ge 41, 3) := by decide +kernel
theorem dX5_areSoBehind_10 : decode cX5_areSoBehind 10 = .ok (.aload_n 0, 1) := by decide +kernel
theorem dX5_areSoBehind_11 : decode cX5_areSoBehind 11 = .ok (.getfield 40, 3) := by decide +kernel
theorem dX5_areSoBehind_14 : decode cX5_areSoBehind 14 = .ok (.iload_n 2, 1) := by decide +kernel
theorem dX5_areSoBehind_15 : decode cX5_areSoBehind 15 = .ok (.iaload, 1) := by decide +kernel
theorem dX5_areSoBehind_16 : decode cX5_areSoBehind 16 = .ok (.iload_n 1, 1) := by decide +kernel
theorem dX5_areSoBehind_17 : decode cX5_areSoBehind 17 = .ok (.if_icmp .ne 25, 3) := by decide +kernel
theorem dX5_areSoBehind_20 : decode cX5_areSoBehind 20 = .ok (.aload_n 0, 1) := by decide +kernel
theorem dX5_areSoBehind_21 : decode cX5_areSoBehind 21 = .ok (.getfield 31, 3) := by decide +kernel
theorem dX5_areSoBehind_24 : decode cX5_areSoBehind 24 = .ok (.aload_n 0, 1) := by decide +kernel
theorem dX5_areSoBehind_25 : decode cX5_areSoBehind 25 = .ok (.getfield 43, 3) := by decide +kernel
theorem dX5_areSoBehind_28 : decode cX5_areSoBehind 28 = .ok (.iload_n 2, 1) := by decide +kernel
theorem dX5_areSoBehind_29 : decode cX5_areSoBehind 29 = .ok (.iaload, 1) := by decide +kernel
theorem dX5_areSoBehind_30 : decode cX5_areSoBehind 30 = .ok (.iaload, 1) := by decide +kernel
theorem dX5_areSoBehind_31 : decode cX5_areSoBehind 31 = .ok (.aload_n 0, 1) := by decide +kernel
theorem dX5_areSoBehind_32 : decode cX5_areSoBehind 32 = .ok (.getfield 46, 3) := by decide +kernel
theorem dX5_areSoBehind_35 : decode cX5_areSoBehind 35 = .ok (.iload_n 2, 1) := by decide +kernel
theorem dX5_areSoBehind_36 : decode cX5_areSoBehind 36 = .ok (.iaload, 1) := by decide +kernel
theorem dX5_areSoBehind_37 : decode cX5_areSoBehind 37 = .ok (.if_icmp .eq 5, 3) := by decide +kernel
theorem dX5_areSoBehind_40 : decode cX5_areSoBehind 40 = .ok (.iconst 0, 1) := by decide +kernel
theorem dX5_areSoBehind_41 : decode cX5_areSoBehind 41 = .ok (.ireturn, 1) := by decide +kernel
theorem dX5_areSoBehind_42 : decode cX5_areSoBehind 42 = .ok (.iinc 2 1, 3) := by decide +kernel
theorem dX5_areSoBehind_45 : decode cX5_areSoBehind 45 = .ok (.goto (-43), 3) := by decide +kernel
theorem dX5_areSoBehind_48 : decode cX5_areSoBehind 48 = .ok (.iconst 1, 1) := by decide +kernel
theorem dX5_areSoBehind_49 : decode cX5_areSoBehind 49 = .ok (.ireturn, 1) := by decide +kernel
set_option maxRecDepth 20000 in
theorem S_X5_areSoBehind_0 {g : GG} {d : Nat} {F : Int32 → St → Prop} (a1 : Int32) (σ : St) (h : VM g d M_X5_areSoBehind (qI F) 2 [(0, vR 23), (1, vI a1), (2, vI 0)] [] σ) : VM g d M_X5_areSoBehind (qI F) 0 [(0, vR 23), (1, vI a1)] [] σ := by
  refine VE_iconst 0 dX5_areSoBehind_0 (k := ?_)
  refine VE_istore_n (ls' := [(2, vI 0), (0, vR 23), (1, vI a1)]) dX5_areSoBehind_1 ?_
  exact VE_sub [1, 2, 0] rfl h
set_option maxRecDepth 20000 in
theorem S_X5_areSoBehind_2 {g : GG} {d : Nat} {F : Int32 → St → Prop} (x1 : Int32) (x2 : Int32) (σ : St) (h : (((σ 23 18) ≤ x2 → F 1 σ) ∧ (¬ (σ 23 18) ≤ x2 → (vp_in x2 8 ∧ ((¬ (σ 34 x2.toNatClampNeg) = x1 → VM g d M_X5_areSoBehind (qI F) 2 [(0, vR 23), (1, vI x1), (2, vI (x2 + 1))] [] σ) ∧ ((σ 34 x2.toNatClampNeg) = x1 → (vp_in (σ 35 x2.toNatClampNeg) 5 ∧ (((σ 31 ((σ 35 x2.toNatClampNeg).toNatClampNeg)) = (σ 36 x2.toNatClampNeg) → VM g d M_X5_areSoBehind (qI F) 2 [(0, vR 23), (1, vI x1), (2, vI (x2 + 1))] [] σ) ∧ (¬ (σ 31 ((σ 35 x2.toNatClampNeg).toNatClampNeg)) = (σ 36 x2.toNatClampNeg) → F 0 σ))))))))) : VM g d M_X5_areSoBehind (qI F) 2 [(0, vR 23), (1, vI x1), (2, vI x2)] [] σ := by
  refine VE_iload_n 2 dX5_areSoBehind_2 (k := ?_)
  refine VE_aload_n 0 dX5_areSoBehind_3 (k := ?_)
  refine VE_getI dX5_areSoBehind_4 fl_X5_86 ?_
  refine VE_icmp_ge 48 dX5_areSoBehind_7 (fun c1 => ?_) (fun c1 => ?_)
  · refine VE_iconst 1 dX5_areSoBehind_48 (k := ?_)
    exact VM_zret dX5_areSoBehind_49 (h.1 c1) (by decide)
  · refine VE_aload_n 0 dX5_areSoBehind_10 (k := ?_)
    refine VE_getR 34 dX5_areSoBehind_11 fl_X5_40 ?_
    refine VE_iload_n 2 dX5_areSoBehind_14 (k := ?_)
    refine VE_iald dX5_areSoBehind_15 (h.2 c1).1 ?_
    refine VE_iload_n 1 dX5_areSoBehind_16 (k := ?_)
    refine VE_icmp_ne 42 dX5_areSoBehind_17 (fun c2 => ?_) (fun c2 => ?_)
    · refine VE_iinc 2 (x2 + 1) (ls' := [(2, vI (x2 + 1)), (0, vR 23), (1, vI x1)]) dX5_areSoBehind_42 ?_
      refine VE_goto 2 dX5_areSoBehind_45 ?_
      exact VE_sub [1, 2, 0] rfl ((h.2 c1).2.1 c2)
    · refine VE_aload_n 0 dX5_areSoBehind_20 (k := ?_)
      refine VE_getR 31 dX5_areSoBehind_21 fl_X5_31 ?_
      refine VE_aload_n 0 dX5_areSoBehind_24 (k := ?_)
      refine VE_getR 35 dX5_areSoBehind_25 fl_X5_43 ?_
      refine VE_iload_n 2 dX5_areSoBehind_28 (k := ?_)
      refine VE_iald dX5_areSoBehind_29 (h.2 c1).1 ?_
      refine VE_iald dX5_areSoBehind_30 ((h.2 c1).2.2 c2).1 ?_
      refine VE_aload_n 0 dX5_areSoBehind_31 (k := ?_)
      refine VE_getR 36 dX5_areSoBehind_32 fl_X5_46 ?_
      refine VE_iload_n 2 dX5_areSoBehind_35 (k := ?_)
      refine VE_iald dX5_areSoBehind_36 (h.2 c1).1 ?_
      refine VE_icmp_eq 42 dX5_areSoBehind_37 (fun c3 => ?_) (fun c3 => ?_)
      · refine VE_iinc 2 (x2 + 1) (ls' := [(2, vI (x2 + 1)), (0, vR 23), (1, vI x1)]) dX5_areSoBehind_42 ?_
        refine VE_goto 2 dX5_areSoBehind_45 ?_
        exact VE_sub [1, 2, 0] rfl (((h.2 c1).2.2 c2).2.1 c3)
      · refine VE_iconst 0 dX5_areSoBehind_40 (k := ?_)
        exact VM_zret dX5_areSoBehind_41 (((h.2 c1).2.2 c2).2.2 c3) (by decide)
theorem dX5_areSo_0 : decode cX5_areSo 0 = .ok (.iconst 0, 1) := by decide +kernel
theorem dX5_areSo_1 : decode cX5_areSo 1 = .ok (.istore_n 1, 1) := by decide +kernel
theorem dX5_areSo_2 : decode cX5_areSo 2 = .ok (.iload_n 1, 1) := by decide +kernel
theorem dX5_areSo_3 : decode cX5_areSo 3 = .ok (.aload_n 0, 1) := by decide +kernel
theorem dX5_areSo_4 : decode cX5_areSo 4 = .ok (.getfield 86, 3) := by decide +kernel
theorem dX5_areSo_7 : decode cX5_areSo 7 = .ok (.if_icmp .ge 24, 3) := by decide +kernel
theorem dX5_areSo_10 : decode cX5_areSo 10 = .ok (.aload_n 0, 1) := by decide +kernel
theorem dX5_areSo_11 : decode cX5_areSo 11 = .ok (.getfield 40, 3) := by decide +kernel
theorem dX5_areSo_14 : decode cX5_areSo 14 = .ok (.iload_n 1, 1) := by decide +kernel
theorem dX5_areSo_15 : decode cX5_areSo 15 = .ok (.iaload, 1) := by decide +kernel
theorem dX5_areSo_16 : decode cX5_areSo 16 = .ok (.aload_n 0, 1) := by decide +kernel
theorem dX5_areSo_17 : decode cX5_areSo 17 = .ok (.getfield 113, 3) := by decide +kernel
theorem dX5_areSo_20 : decode cX5_areSo 20 = .ok (.if_icmp .le 5, 3) := by decide +kernel
theorem dX5_areSo_23 : decode cX5_areSo 23 = .ok (.iconst 0, 1) := by decide +kernel
theorem dX5_areSo_24 : decode cX5_areSo 24 = .ok (.ireturn, 1) := by decide +kernel
theorem dX5_areSo_25 : decode cX5_areSo 25 = .ok (.iinc 1 1, 3) := by decide +kernel
theorem dX5_areSo_28 : decode cX5_areSo 28 = .ok (.goto (-26), 3) := by decide +kernel
theorem dX5_areSo_31 : decode cX5_areSo 31 = .ok (.aload_n 0, 1) := by decide +kernel
theorem dX5_areSo_32 : decode cX5_areSo 32 = .ok (.invokevirtual 116, 3) := by decide +kernel
theorem dX5_areSo_35 : decode cX5_areSo 35 = .ok (.aload_n 0, 1) := by decide +kernel
theorem dX5_areSo_36 : decode cX5_areSo 36 = .ok (.iconst 0, 1) := by decide +kernel
theorem dX5_areSo_37 : decode cX5_areSo 37 = .ok (.invokevirtual 163, 3) := by decide +kernel
theorem dX5_areSo_40 : decode cX5_areSo 40 = .ok (.istore_n 1, 1) := by decide +kernel
theorem dX5_areSo_41 : decode cX5_areSo 41 = .ok (.iconst 0, 1) := by decide +kernel
theorem dX5_areSo_42 : decode cX5_areSo 42 = .ok (.istore_n 2, 1) := by decide +kernel
theorem dX5_areSo_43 : decode cX5_areSo 43 = .ok (.iload_n 2, 1) := by decide +kernel
theorem dX5_areSo_44 : decode cX5_areSo 44 = .ok (.aload_n 0, 1) := by decide +kernel
theorem dX5_areSo_45 : decode cX5_areSo 45 = .ok (.getfield 113, 3) := by decide +kernel
theorem dX5_areSo_48 : decode cX5_areSo 48 = .ok (.if_icmp .ge 42, 3) := by decide +kernel
theorem dX5_areSo_51 : decode cX5_areSo 51 = .ok (.iload_n 1, 1) := by decide +kernel
theorem dX5_areSo_52 : decode cX5_areSo 52 = .ok (.ifCond .eq 38, 3) := by decide +kernel
theorem dX5_areSo_55 : decode cX5_areSo 55 = .ok (.aload_n 0, 1) := by decide +kernel
theorem dX5_areSo_56 : decode cX5_areSo 56 = .ok (.aload_n 0, 1) := by decide +kernel
theorem dX5_areSo_57 : decode cX5_areSo 57 = .ok (.getfield 37, 3) := by decide +kernel
theorem dX5_areSo_60 : decode cX5_areSo 60 = .ok (.iload_n 2, 1) := by decide +kernel
theorem dX5_areSo_61 : decode cX5_areSo 61 = .ok (.iaload, 1) := by decide +kernel
theorem dX5_areSo_62 : decode cX5_areSo 62 = .ok (.invokevirtual 119, 3) := by decide +kernel
theorem dX5_areSo_65 : decode cX5_areSo 65 = .ok (.ifCond .eq 17, 3) := by decide +kernel
theorem dX5_areSo_68 : decode cX5_areSo 68 = .ok (.aload_n 0, 1) := by decide +kernel
theorem dX5_areSo_69 : decode cX5_areSo 69 = .ok (.iload_n 2, 1) := by decide +kernel
theorem dX5_areSo_70 : decode cX5_areSo 70 = .ok (.iconst 1, 1) := by decide +kernel
theorem dX5_areSo_71 : decode cX5_areSo 71 = .ok (.iadd, 1) := by decide +kernel
theorem dX5_areSo_72 : decode cX5_areSo 72 = .ok (.invokevirtual 163, 3) := by decide +kernel
theorem dX5_areSo_75 : decode cX5_areSo 75 = .ok (.ifCond .eq 7, 3) := by decide +kernel
theorem dX5_areSo_78 : decode cX5_areSo 78 = .ok (.iconst 1, 1) := by decide +kernel
theorem dX5_areSo_79 : decode cX5_areSo 79 = .ok (.goto 4, 3) := by decide +kernel
theorem dX5_areSo_82 : decode cX5_areSo 82 = .ok (.iconst 0, 1) := by decide +kernel
theorem dX5_areSo_83 : decode cX5_areSo 83 = .ok (.istore_n 1, 1) := by decide +kernel
theorem dX5_areSo_84 : decode cX5_areSo 84 = .ok (.iinc 2 1, 3) := by decide +kernel
theorem dX5_areSo_87 : decode cX5_areSo 87 = .ok (.goto (-44), 3) := by decide +kernel
theorem dX5_areSo_90 : decode cX5_areSo 90 = .ok (.iload_n 1, 1) := by decide +kernel
theorem dX5_areSo_91 : decode cX5_areSo 91 = .ok (.ireturn, 1) := by decide +kernel
set_option maxRecDepth 20000 in
theorem S_X5_areSo_0 {g : GG} {d : Nat} {F : Int32 → St → Prop}  (σ : St) (h : VM g (d + 1) M_X5_areSo (qI F) 2 [(0, vR 23), (1, vI 0)] [] σ) : VM g (d + 1) M_X5_areSo (qI F) 0 [(0, vR 23)] [] σ := by
  refine VE_iconst 0 dX5_areSo_0 (k := ?_)
  refine VE_istore_n (ls' := [(1, vI 0), (0, vR 23)]) dX5_areSo_1 ?_
  exact VE_sub [1, 0] rfl h
set_option maxRecDepth 20000 in
theorem S_X5_areSo_2 {g : GG} {d : Nat} {F : Int32 → St → Prop} (x1 : Int32) (σ : St) (h : (((σ 23 18) ≤ x1 → (ME g d M_X5_begin [vR 23] σ (qV (fun σ3 => (ME g d M_X5_areSoBehind [vR 23, vI 0] σ3 (qI (fun r5 σ6 => VM g (d + 1) M_X5_areSo (qI F) 43 [(0, vR 23), (1, vI r5), (2, vI 0)] [] σ6))))))) ∧ (¬ (σ 23 18) ≤ x1 → (vp_in x1 8 ∧ (((σ 34 x1.toNatClampNeg) ≤ (σ 23 15) → VM g (d + 1) M_X5_areSo (qI F) 2 [(0, vR 23), (1, vI (x1 + 1))] [] σ) ∧ (¬ (σ 34 x1.toNatClampNeg) ≤ (σ 23 15) → F 0 σ)))))) : VM g (d + 1) M_X5_areSo (qI F) 2 [(0, vR 23), (1, vI x1)] [] σ := by
  refine VE_iload_n 1 dX5_areSo_2 (k := ?_)
  refine VE_aload_n 0 dX5_areSo_3 (k := ?_)
  refine VE_getI dX5_areSo_4 fl_X5_86 ?_
  refine VE_icmp_ge 31 dX5_areSo_7 (fun c1 => ?_) (fun c1 => ?_)
  · refine VE_aload_n 0 dX5_areSo_31 (k := ?_)
    refine VE_cVv [] dX5_areSo_32 ml_X5_116 (h.1 c1) (fun σ3 h4 => ?_) (rok_D d)
    refine VE_aload_n 0 dX5_areSo_35 (k := ?_)
    refine VE_iconst 0 dX5_areSo_36 (k := ?_)
    refine VE_cVi [vI 0] dX5_areSo_37 ml_X5_163 h4 (fun r5 σ6 h7 => ?_) (rok_D d)
    refine VE_istore_n (ls' := [(1, vI r5), (0, vR 23)]) dX5_areSo_40 ?_
    refine VE_iconst 0 dX5_areSo_41 (k := ?_)
    refine VE_istore_n (ls' := [(2, vI 0), (1, vI r5), (0, vR 23)]) dX5_areSo_42 ?_
    exact VE_sub [2, 1, 0] rfl h7
  · refine VE_aload_n 0 dX5_areSo_10 (k := ?_)
    refine VE_getR 34 dX5_areSo_11 fl_X5_40 ?_
    refine VE_iload_n 1 dX5_areSo_14 (k := ?_)
    refine VE_iald dX5_areSo_15 (h.2 c1).1 ?_
    refine VE_aload_n 0 dX5_areSo_16 (k := ?_)
    refine VE_getI dX5_areSo_17 fl_X5_113 ?_
    refine VE_icmp_le 25 dX5_areSo_20 (fun c8 => ?_) (fun c8 => ?_)
    · refine VE_iinc 1 (x1 + 1) (ls' := [(1, vI (x1 + 1)), (0, vR 23)]) dX5_areSo_25 ?_
      refine VE_goto 2 dX5_areSo_28 ?_
      exact VE_sub [1, 0] rfl ((h.2 c1).2.1 c8)
    · refine VE_iconst 0 dX5_areSo_23 (k := ?_)
      exact VM_zret dX5_areSo_24 ((h.2 c1).2.2 c8) (by decide)
set_option maxRecDepth 20000 in
theorem S_X5_areSo_43 {g : GG} {d : Nat} {F : Int32 → St → Prop} (x1 : Int32) (x2 : Int32) (σ : St) (h : (((σ 23 15) ≤ x2 → (F x1 σ ∧ (x1 = 0 ∨ x1 = 1))) ∧ (¬ (σ 23 15) ≤ x2 → ((x1 = 0 → (F x1 σ ∧ (x1 = 0 ∨ x1 = 1))) ∧ (¬ x1 = 0 → (vp_in x2 20 ∧ (ME g d M_X5_visit [vR 23, vI (σ 33 x2.toNatClampNeg)] σ (qI (fun r3 σ4 => ((r3 = 0 → VM g (d + 1) M_X5_areSo (qI F) 43 [(0, vR 23), (1, vI 0), (2, vI (x2 + 1))] [] σ4) ∧ (¬ r3 = 0 → (ME g d M_X5_areSoBehind [vR 23, vI (x2 + 1)] σ4 (qI (fun r7 σ8 => ((r7 = 0 → VM g (d + 1) M_X5_areSo (qI F) 43 [(0, vR 23), (1, vI 0), (2, vI (x2 + 1))] [] σ8) ∧ (¬ r7 = 0 → VM g (d + 1) M_X5_areSo (qI F) 43 [(0, vR 23), (1, vI 1), (2, vI (x2 + 1))] [] σ8)))))))))))))))) : VM g (d + 1) M_X5_areSo (qI F) 43 [(0, vR 23), (1, vI x1), (2, vI x2)] [] σ := by
  refine VE_iload_n 2 dX5_areSo_43 (k := ?_)
  refine VE_aload_n 0 dX5_areSo_44 (k := ?_)
  refine VE_getI dX5_areSo_45 fl_X5_113 ?_
  refine VE_icmp_ge 90 dX5_areSo_48 (fun c1 => ?_) (fun c1 => ?_)
  · refine VE_iload_n 1 dX5_areSo_90 (k := ?_)
    exact VM_zret dX5_areSo_91 (h.1 c1).1 (h.1 c1).2
  · refine VE_iload_n 1 dX5_areSo_51 (k := ?_)
    refine VE_if_eq 90 dX5_areSo_52 (fun c2 => ?_) (fun c2 => ?_)
    · refine VE_iload_n 1 dX5_areSo_90 (k := ?_)
      exact VM_zret dX5_areSo_91 ((h.2 c1).1 c2).1 ((h.2 c1).1 c2).2
    · refine VE_aload_n 0 dX5_areSo_55 (k := ?_)
      refine VE_aload_n 0 dX5_areSo_56 (k := ?_)
      refine VE_getR 33 dX5_areSo_57 fl_X5_37 ?_
      refine VE_iload_n 2 dX5_areSo_60 (k := ?_)
      refine VE_iald dX5_areSo_61 ((h.2 c1).2 c2).1 ?_
      refine VE_cVi [vI (σ 33 x2.toNatClampNeg)] dX5_areSo_62 ml_X5_119 ((h.2 c1).2 c2).2 (fun r3 σ4 h5 => ?_) (rok_D d)
      refine VE_if_eq 82 dX5_areSo_65 (fun c6 => ?_) (fun c6 => ?_)
      · refine VE_iconst 0 dX5_areSo_82 (k := ?_)
        refine VE_istore_n (ls' := [(1, vI 0), (0, vR 23), (2, vI x2)]) dX5_areSo_83 ?_
        refine VE_iinc 2 (x2 + 1) (ls' := [(2, vI (x2 + 1)), (1, vI 0), (0, vR 23)]) dX5_areSo_84 ?_
        refine VE_goto 43 dX5_areSo_87 ?_
        exact VE_sub [2, 1, 0] rfl (h5.1 c6)
      · refine VE_aload_n 0 dX5_areSo_68 (k := ?_)
        refine VE_iload_n 2 dX5_areSo_69 (k := ?_)
        refine VE_iconst 1 dX5_areSo_70 (k := ?_)
        refine VE_iadd dX5_areSo_71 ?_
        refine VE_cVi [vI (x2 + 1)] dX5_areSo_72 ml_X5_163 (h5.2 c6) (fun r7 σ8 h9 => ?_) (rok_D d)
        refine VE_if_eq 82 dX5_areSo_75 (fun c10 => ?_) (fun c10 => ?_)
        · refine VE_iconst 0 dX5_areSo_82 (k := ?_)
          refine VE_istore_n (ls' := [(1, vI 0), (0, vR 23), (2, vI x2)]) dX5_areSo_83 ?_
          refine VE_iinc 2 (x2 + 1) (ls' := [(2, vI (x2 + 1)), (1, vI 0), (0, vR 23)]) dX5_areSo_84 ?_
          refine VE_goto 43 dX5_areSo_87 ?_
          exact VE_sub [2, 1, 0] rfl (h9.1 c10)
        · refine VE_iconst 1 dX5_areSo_78 (k := ?_)
          refine VE_goto 83 dX5_areSo_79 ?_
          refine VE_istore_n (ls' := [(1, vI 1), (0, vR 23), (2, vI x2)]) dX5_areSo_83 ?_
          refine VE_iinc 2 (x2 + 1) (ls' := [(2, vI (x2 + 1)), (1, vI 1), (0, vR 23)]) dX5_areSo_84 ?_
          refine VE_goto 43 dX5_areSo_87 ?_
          exact VE_sub [2, 1, 0] rfl (h9.2 c10)
theorem dX5_who_0 : decode cX5_who 0 = .ok (.aload_n 0, 1) := by decide +kernel
theorem dX5_who_1 : decode cX5_who 1 = .ok (.iconst 0, 1) := by decide +kernel
theorem dX5_who_2 : decode cX5_who 2 = .ok (.putfield 49, 3) := by decide +kernel
theorem dX5_who_5 : decode cX5_who 5 = .ok (.iload_n 2, 1) := by decide +kernel
theorem dX5_who_6 : decode cX5_who 6 = .ok (.invokestatic 65, 3) := by decide +kernel
theorem dX5_who_9 : decode cX5_who 9 = .ok (.ifCond .ne 5, 3) := by decide +kernel
theorem dX5_who_12 : decode cX5_who 12 = .ok (.iconst (-1), 1) := by decide +kernel
theorem dX5_who_13 : decode cX5_who 13 = .ok (.ireturn, 1) := by decide +kernel
theorem dX5_who_14 : decode cX5_who 14 = .ok (.iload_n 3, 1) := by decide +kernel
theorem dX5_who_15 : decode cX5_who 15 = .ok (.iload 5, 2) := by decide +kernel
theorem dX5_who_17 : decode cX5_who 17 = .ok (.invokestatic 122, 3) := by decide +kernel
theorem dX5_who_20 : decode cX5_who 20 = .ok (.ifCond .eq 15, 3) := by decide +kernel
theorem dX5_who_23 : decode cX5_who 23 = .ok (.iload_n 1, 1) := by decide +kernel
theorem dX5_who_24 : decode cX5_who 24 = .ok (.iconst 0, 1) := by decide +kernel
theorem dX5_who_25 : decode cX5_who 25 = .ok (.iload 5, 2) := by decide +kernel
theorem dX5_who_27 : decode cX5_who 27 = .ok (.iconst 1, 1) := by decide +kernel
theorem dX5_who_28 : decode cX5_who 28 = .ok (.isub, 1) := by decide +kernel
theorem dX5_who_29 : decode cX5_who 29 = .ok (.invokestatic 55, 3) := by decide +kernel
theorem dX5_who_32 : decode cX5_who 32 = .ok (.ifCond .ne 6, 3) := by decide +kernel
theorem dX5_who_35 : decode cX5_who 35 = .ok (.bipush (-2), 2) := by decide +kernel
theorem dX5_who_37 : decode cX5_who 37 = .ok (.ireturn, 1) := by decide +kernel
theorem dX5_who_38 : decode cX5_who 38 = .ok (.aload_n 0, 1) := by decide +kernel
theorem dX5_who_39 : decode cX5_who 39 = .ok (.iload_n 2, 1) := by decide +kernel
theorem dX5_who_40 : decode cX5_who 40 = .ok (.iload_n 3, 1) := by decide +kernel
theorem dX5_who_41 : decode cX5_who 41 = .ok (.iload 4, 2) := by decide +kernel
theorem dX5_who_43 : decode cX5_who 43 = .ok (.iload 5, 2) := by decide +kernel
theorem dX5_who_45 : decode cX5_who 45 = .ok (.invokevirtual 128, 3) := by decide +kernel
theorem dX5_who_48 : decode cX5_who 48 = .ok (.istore 6, 2) := by decide +kernel
theorem dX5_who_50 : decode cX5_who 50 = .ok (.iload 6, 2) := by decide +kernel
theorem dX5_who_52 : decode cX5_who 52 = .ok (.ifCond .eq 6, 3) := by decide +kernel
theorem dX5_who_55 : decode cX5_who 55 = .ok (.iload 6, 2) := by decide +kernel
theorem dX5_who_57 : decode cX5_who 57 = .ok (.ireturn, 1) := by decide +kernel
theorem dX5_who_58 : decode cX5_who 58 = .ok (.iconst 0, 1) := by decide +kernel
theorem dX5_who_59 : decode cX5_who 59 = .ok (.istore 7, 2) := by decide +kernel
theorem dX5_who_61 : decode cX5_who 61 = .ok (.iconst 0, 1) := by decide +kernel
theorem dX5_who_62 : decode cX5_who 62 = .ok (.istore 8, 2) := by decide +kernel
theorem dX5_who_64 : decode cX5_who 64 = .ok (.iload 8, 2) := by decide +kernel
theorem dX5_who_66 : decode cX5_who 66 = .ok (.aload_n 0, 1) := by decide +kernel
theorem dX5_who_67 : decode cX5_who 67 = .ok (.getfield 59, 3) := by decide +kernel
theorem dX5_who_70 : decode cX5_who 70 = .ok (.if_icmp .ge 37, 3) := by decide +kernel
theorem dX5_who_73 : decode cX5_who 73 = .ok (.aload_n 0, 1) := by decide +kernel
theorem dX5_who_74 : decode cX5_who 74 = .ok (.getfield 37, 3) := by decide +kernel
theorem dX5_who_77 : decode cX5_who 77 = .ok (.iload_n 1, 1) := by decide +kernel
theorem dX5_who_78 : decode cX5_who 78 = .ok (.iload 8, 2) := by decide +kernel
theorem dX5_who_80 : decode cX5_who 80 = .ok (.iastore, 1) := by decide +kernel
theorem dX5_who_81 : decode cX5_who 81 = .ok (.iload 7, 2) := by decide +kernel
theorem dX5_who_83 : decode cX5_who 83 = .ok (.aload_n 0, 1) := by decide +kernel
theorem dX5_who_84 : decode cX5_who 84 = .ok (.invokevirtual 166, 3) := by decide +kernel
theorem dX5_who_87 : decode cX5_who 87 = .ok (.ifCond .eq 10, 3) := by decide +kernel
theorem dX5_who_90 : decode cX5_who 90 = .ok (.iconst 1, 1) := by decide +kernel
theorem dX5_who_91 : decode cX5_who 91 = .ok (.iload 8, 2) := by decide +kernel
theorem dX5_who_93 : decode cX5_who 93 = .ok (.ishl, 1) := by decide +kernel
theorem dX5_who_94 : decode cX5_who 94 = .ok (.goto 4, 3) := by decide +kernel
theorem dX5_who_97 : decode cX5_who 97 = .ok (.iconst 0, 1) := by decide +kernel
theorem dX5_who_98 : decode cX5_who 98 = .ok (.ior, 1) := by decide +kernel
theorem dX5_who_99 : decode cX5_who 99 = .ok (.istore 7, 2) := by decide +kernel
theorem dX5_who_101 : decode cX5_who 101 = .ok (.iinc 8 1, 3) := by decide +kernel
theorem dX5_who_104 : decode cX5_who 104 = .ok (.goto (-40), 3) := by decide +kernel
theorem dX5_who_107 : decode cX5_who 107 = .ok (.iload 7, 2) := by decide +kernel
theorem dX5_who_109 : decode cX5_who 109 = .ok (.ireturn, 1) := by decide +kernel
set_option maxRecDepth 20000 in
theorem S_X5_who_0 {g : GG} {d : Nat} {F : Int32 → St → Prop} (a1 : Int32) (a2 : Int32) (a3 : Int32) (a4 : Int32) (a5 : Int32) (σ : St) (h : (ME g d M_X5_isSheet [vI a2] (sU σ 23 0 0) (qI (fun r1 σ2 => ((¬ r1 = 0 → (ME g d M_X5_isRow [vI a3, vI a5] σ2 (qI (fun r5 σ6 => ((r5 = 0 → F (-2) σ6) ∧ (¬ r5 = 0 → (ME g d M_X5_within [vI a1, vI 0, vI (a5 - 1)] σ6 (qI (fun r9 σ10 => ((¬ r9 = 0 → (ME g d M_X5_layVisits [vR 23, vI a2, vI a3, vI a4, vI a5] σ10 (qI (fun r13 σ14 => ((r13 = 0 → VM g (d + 1) M_X5_who (qI F) 64 [(0, vR 23), (1, vI a1), (2, vI a2), (3, vI a3), (4, vI a4), (5, vI a5), (6, vI r13), (7, vI 0), (8, vI 0)] [] σ14) ∧ (¬ r13 = 0 → F r13 σ14)))))) ∧ (r9 = 0 → F (-2) σ10))))))))))) ∧ (r1 = 0 → F (-1) σ2)))))) : VM g (d + 1) M_X5_who (qI F) 0 [(0, vR 23), (1, vI a1), (2, vI a2), (3, vI a3), (4, vI a4), (5, vI a5)] [] σ := by
  refine VE_aload_n 0 dX5_who_0 (k := ?_)
  refine VE_iconst 0 dX5_who_1 (k := ?_)
  refine VE_put dX5_who_2 fl_X5_49 ?_
  refine VE_iload_n 2 dX5_who_5 (k := ?_)
  refine VE_cSi [vI a2] dX5_who_6 ml_X5_65 h (fun r1 σ2 h3 => ?_) (rok_D d)
  refine VE_if_ne 14 dX5_who_9 (fun c4 => ?_) (fun c4 => ?_)
  · refine VE_iload_n 3 dX5_who_14 (k := ?_)
    refine VE_iload 5 dX5_who_15 (k := ?_)
    refine VE_cSi [vI a3, vI a5] dX5_who_17 ml_X5_122 (h3.1 c4) (fun r5 σ6 h7 => ?_) (rok_D d)
    refine VE_if_eq 35 dX5_who_20 (fun c8 => ?_) (fun c8 => ?_)
    · refine VE_bipush (-2) dX5_who_35 (k := ?_)
      exact VM_iret dX5_who_37 (h7.1 c8)
    · refine VE_iload_n 1 dX5_who_23 (k := ?_)
      refine VE_iconst 0 dX5_who_24 (k := ?_)
      refine VE_iload 5 dX5_who_25 (k := ?_)
      refine VE_iconst 1 dX5_who_27 (k := ?_)
      refine VE_isub dX5_who_28 ?_
      refine VE_cSi [vI a1, vI 0, vI (a5 - 1)] dX5_who_29 ml_X5_55 (h7.2 c8) (fun r9 σ10 h11 => ?_) (rok_D d)
      refine VE_if_ne 38 dX5_who_32 (fun c12 => ?_) (fun c12 => ?_)
      · refine VE_aload_n 0 dX5_who_38 (k := ?_)
        refine VE_iload_n 2 dX5_who_39 (k := ?_)
        refine VE_iload_n 3 dX5_who_40 (k := ?_)
        refine VE_iload 4 dX5_who_41 (k := ?_)
        refine VE_iload 5 dX5_who_43 (k := ?_)
        refine VE_cVi [vI a2, vI a3, vI a4, vI a5] dX5_who_45 ml_X5_128 (h11.1 c12) (fun r13 σ14 h15 => ?_) (rok_D d)
        refine VE_istore (ls' := [(6, vI r13), (0, vR 23), (1, vI a1), (2, vI a2), (3, vI a3), (4, vI a4), (5, vI a5)]) dX5_who_48 ?_
        refine VE_iload 0 dX5_who_50 (k := ?_)
        refine VE_if_eq 58 dX5_who_52 (fun c16 => ?_) (fun c16 => ?_)
        · refine VE_iconst 0 dX5_who_58 (k := ?_)
          refine VE_istore (ls' := [(7, vI 0), (6, vI r13), (0, vR 23), (1, vI a1), (2, vI a2), (3, vI a3), (4, vI a4), (5, vI a5)]) dX5_who_59 ?_
          refine VE_iconst 0 dX5_who_61 (k := ?_)
          refine VE_istore (ls' := [(8, vI 0), (7, vI 0), (6, vI r13), (0, vR 23), (1, vI a1), (2, vI a2), (3, vI a3), (4, vI a4), (5, vI a5)]) dX5_who_62 ?_
          exact VE_sub [3, 4, 5, 6, 7, 8, 2, 1, 0] rfl (h15.1 c16)
        · refine VE_iload 0 dX5_who_55 (k := ?_)
          exact VM_iret dX5_who_57 (h15.2 c16)
      · refine VE_bipush (-2) dX5_who_35 (k := ?_)
        exact VM_iret dX5_who_37 (h11.2 c12)
  · refine VE_iconst (-1) dX5_who_12 (k := ?_)
    exact VM_iret dX5_who_13 (h3.2 c4)
set_option maxRecDepth 20000 in
theorem S_X5_who_64 {g : GG} {d : Nat} {F : Int32 → St → Prop} (x1 : Int32) (x2 : Int32) (x3 : Int32) (x4 : Int32) (x5 : Int32) (x6 : Int32) (x7 : Int32) (x8 : Int32) (σ : St) (h : (((σ 23 5) ≤ x8 → F x7 σ) ∧ (¬ (σ 23 5) ≤ x8 → (vp_in x1 20 ∧ (ME g d M_X5_areSo [vR 23] (sU σ 33 x1.toNatClampNeg x8) (qI (fun r2 σ3 => ((r2 = 0 → VM g (d + 1) M_X5_who (qI F) 64 [(0, vR 23), (1, vI x1), (2, vI x2), (3, vI x3), (4, vI x4), (5, vI x5), (6, vI x6), (7, vI (x7 ||| 0)), (8, vI (x8 + 1))] [] σ3) ∧ (¬ r2 = 0 → VM g (d + 1) M_X5_who (qI F) 64 [(0, vR 23), (1, vI x1), (2, vI x2), (3, vI x3), (4, vI x4), (5, vI x5), (6, vI x6), (7, vI (x7 ||| (1 <<< (x8 &&& 31)))), (8, vI (x8 + 1))] [] σ3))))))))) : VM g (d + 1) M_X5_who (qI F) 64 [(0, vR 23), (1, vI x1), (2, vI x2), (3, vI x3), (4, vI x4), (5, vI x5), (6, vI x6), (7, vI x7), (8, vI x8)] [] σ := by
  refine VE_iload 8 dX5_who_64 (k := ?_)
  refine VE_aload_n 0 dX5_who_66 (k := ?_)
  refine VE_getI dX5_who_67 fl_X5_59 ?_
  refine VE_icmp_ge 107 dX5_who_70 (fun c1 => ?_) (fun c1 => ?_)
  · refine VE_iload 7 dX5_who_107 (k := ?_)
    exact VM_iret dX5_who_109 (h.1 c1)
  · refine VE_aload_n 0 dX5_who_73 (k := ?_)
    refine VE_getR 33 dX5_who_74 fl_X5_37 ?_
    refine VE_iload_n 1 dX5_who_77 (k := ?_)
    refine VE_iload 8 dX5_who_78 (k := ?_)
    refine VE_iast dX5_who_80 (h.2 c1).1 ?_
    refine VE_iload 7 dX5_who_81 (k := ?_)
    refine VE_aload_n 0 dX5_who_83 (k := ?_)
    refine VE_cVi [] dX5_who_84 ml_X5_166 (h.2 c1).2 (fun r2 σ3 h4 => ?_) (rok_D d)
    refine VE_if_eq 97 dX5_who_87 (fun c5 => ?_) (fun c5 => ?_)
    · refine VE_iconst 0 dX5_who_97 (k := ?_)
      refine VE_ior dX5_who_98 ?_
      refine VE_istore (ls' := [(7, vI (x7 ||| 0)), (0, vR 23), (1, vI x1), (2, vI x2), (3, vI x3), (4, vI x4), (5, vI x5), (6, vI x6), (8, vI x8)]) dX5_who_99 ?_
      refine VE_iinc 8 (x8 + 1) (ls' := [(8, vI (x8 + 1)), (7, vI (x7 ||| 0)), (0, vR 23), (1, vI x1), (2, vI x2), (3, vI x3), (4, vI x4), (5, vI x5), (6, vI x6)]) dX5_who_101 ?_
      refine VE_goto 64 dX5_who_104 ?_
      exact VE_sub [2, 3, 4, 5, 6, 7, 8, 1, 0] rfl (h4.1 c5)
    · refine VE_iconst 1 dX5_who_90 (k := ?_)
      refine VE_iload 8 dX5_who_91 (k := ?_)
      refine VE_ishl dX5_who_93 ?_
      refine VE_goto 98 dX5_who_94 ?_
      refine VE_ior dX5_who_98 ?_
      refine VE_istore (ls' := [(7, vI (x7 ||| (1 <<< (x8 &&& 31)))), (0, vR 23), (1, vI x1), (2, vI x2), (3, vI x3), (4, vI x4), (5, vI x5), (6, vI x6), (8, vI x8)]) dX5_who_99 ?_
      refine VE_iinc 8 (x8 + 1) (ls' := [(8, vI (x8 + 1)), (7, vI (x7 ||| (1 <<< (x8 &&& 31)))), (0, vR 23), (1, vI x1), (2, vI x2), (3, vI x3), (4, vI x4), (5, vI x5), (6, vI x6)]) dX5_who_101 ?_
      refine VE_goto 64 dX5_who_104 ?_
      exact VE_sub [2, 3, 4, 5, 6, 7, 8, 1, 0] rfl (h4.2 c5)
theorem dX5_lay_0 : decode cX5_lay 0 = .ok (.aload_n 0, 1) := by decide +kernel
theorem dX5_lay_1 : decode cX5_lay 1 = .ok (.iconst 0, 1) := by decide +kernel
theorem dX5_lay_2 : decode cX5_lay 2 = .ok (.putfield 49, 3) := by decide +kernel
theorem dX5_lay_5 : decode cX5_lay 5 = .ok (.aload_n 0, 1) := by decide +kernel
theorem dX5_lay_6 : decode cX5_lay 6 = .ok (.iload_n 1, 1) := by decide +kernel
theorem dX5_lay_7 : decode cX5_lay 7 = .ok (.invokevirtual 100, 3) := by decide +kernel
theorem dX5_lay_10 : decode cX5_lay 10 = .ok (.ifCond .eq 10, 3) := by decide +kernel
theorem dX5_lay_13 : decode cX5_lay 13 = .ok (.iload_n 2, 1) := by decide +kernel
theorem dX5_lay_14 : decode cX5_lay 14 = .ok (.invokestatic 65, 3) := by decide +kernel
theorem dX5_lay_17 : decode cX5_lay 17 = .ok (.ifCond .ne 5, 3) := by decide +kernel
theorem dX5_lay_20 : decode cX5_lay 20 = .ok (.iconst (-1), 1) := by decide +kernel
theorem dX5_lay_21 : decode cX5_lay 21 = .ok (.ireturn, 1) := by decide +kernel
theorem dX5_lay_22 : decode cX5_lay 22 = .ok (.iload_n 3, 1) := by decide +kernel
theorem dX5_lay_23 : decode cX5_lay 23 = .ok (.iload 5, 2) := by decide +kernel
theorem dX5_lay_25 : decode cX5_lay 25 = .ok (.invokestatic 122, 3) := by decide +kernel
theorem dX5_lay_28 : decode cX5_lay 28 = .ok (.ifCond .eq 16, 3) := by decide +kernel
theorem dX5_lay_31 : decode cX5_lay 31 = .ok (.aload_n 0, 1) := by decide +kernel
theorem dX5_lay_32 : decode cX5_lay 32 = .ok (.iload_n 2, 1) := by decide +kernel
theorem dX5_lay_33 : decode cX5_lay 33 = .ok (.iload_n 3, 1) := by decide +kernel
theorem dX5_lay_34 : decode cX5_lay 34 = .ok (.iload 4, 2) := by decide +kernel
theorem dX5_lay_36 : decode cX5_lay 36 = .ok (.iload 5, 2) := by decide +kernel
theorem dX5_lay_38 : decode cX5_lay 38 = .ok (.invokevirtual 128, 3) := by decide +kernel
theorem dX5_lay_41 : decode cX5_lay 41 = .ok (.goto 5, 3) := by decide +kernel
theorem dX5_lay_44 : decode cX5_lay 44 = .ok (.bipush (-2), 2) := by decide +kernel
theorem dX5_lay_46 : decode cX5_lay 46 = .ok (.ireturn, 1) := by decide +kernel
set_option maxRecDepth 20000 in
theorem S_X5_lay_0 {g : GG} {d : Nat} {F : Int32 → St → Prop} (a1 : Int32) (a2 : Int32) (a3 : Int32) (a4 : Int32) (a5 : Int32) (σ : St) (h : (ME g d M_X5_isHead [vR 23, vI a1] (sU σ 23 0 0) (qI (fun r1 σ2 => ((r1 = 0 → F (-1) σ2) ∧ (¬ r1 = 0 → (ME g d M_X5_isSheet [vI a2] σ2 (qI (fun r5 σ6 => ((¬ r5 = 0 → (ME g d M_X5_isRow [vI a3, vI a5] σ6 (qI (fun r9 σ10 => ((r9 = 0 → F (-2) σ10) ∧ (¬ r9 = 0 → (ME g d M_X5_layVisits [vR 23, vI a2, vI a3, vI a4, vI a5] σ10 (qI (fun r13 σ14 => F r13 σ14))))))))) ∧ (r5 = 0 → F (-1) σ6))))))))))) : VM g (d + 1) M_X5_lay (qI F) 0 [(0, vR 23), (1, vI a1), (2, vI a2), (3, vI a3), (4, vI a4), (5, vI a5)] [] σ := by
  refine VE_aload_n 0 dX5_lay_0 (k := ?_)
  refine VE_iconst 0 dX5_lay_1 (k := ?_)
  refine VE_put dX5_lay_2 fl_X5_49 ?_
  refine VE_aload_n 0 dX5_lay_5 (k := ?_)
  refine VE_iload_n 1 dX5_lay_6 (k := ?_)
  refine VE_cVi [vI a1] dX5_lay_7 ml_X5_100 h (fun r1 σ2 h3 => ?_) (rok_D d)
  refine VE_if_eq 20 dX5_lay_10 (fun c4 => ?_) (fun c4 => ?_)
  · refine VE_iconst (-1) dX5_lay_20 (k := ?_)
    exact VM_iret dX5_lay_21 (h3.1 c4)
  · refine VE_iload_n 2 dX5_lay_13 (k := ?_)
    refine VE_cSi [vI a2] dX5_lay_14 ml_X5_65 (h3.2 c4) (fun r5 σ6 h7 => ?_) (rok_D d)
    refine VE_if_ne 22 dX5_lay_17 (fun c8 => ?_) (fun c8 => ?_)
    · refine VE_iload_n 3 dX5_lay_22 (k := ?_)
      refine VE_iload 5 dX5_lay_23 (k := ?_)
      refine VE_cSi [vI a3, vI a5] dX5_lay_25 ml_X5_122 (h7.1 c8) (fun r9 σ10 h11 => ?_) (rok_D d)
      refine VE_if_eq 44 dX5_lay_28 (fun c12 => ?_) (fun c12 => ?_)
      · refine VE_bipush (-2) dX5_lay_44 (k := ?_)
        exact VM_iret dX5_lay_46 (h11.1 c12)
      · refine VE_aload_n 0 dX5_lay_31 (k := ?_)
        refine VE_iload_n 2 dX5_lay_32 (k := ?_)
        refine VE_iload_n 3 dX5_lay_33 (k := ?_)
        refine VE_iload 4 dX5_lay_34 (k := ?_)
        refine VE_iload 5 dX5_lay_36 (k := ?_)
        refine VE_cVi [vI a2, vI a3, vI a4, vI a5] dX5_lay_38 ml_X5_128 (h11.2 c12) (fun r13 σ14 h15 => ?_) (rok_D d)
        refine VE_goto 46 dX5_lay_41 ?_
        exact VM_iret dX5_lay_46 h15
    · refine VE_iconst (-1) dX5_lay_20 (k := ?_)
      exact VM_iret dX5_lay_21 (h7.2 c8)
theorem dX5_kinds_0 : decode cX5_kinds 0 = .ok (.aload_n 0, 1) := by decide +kernel
theorem dX5_kinds_1 : decode cX5_kinds 1 = .ok (.iload_n 1, 1) := by decide +kernel
theorem dX5_kinds_2 : decode cX5_kinds 2 = .ok (.iload_n 2, 1) := by decide +kernel
theorem dX5_kinds_3 : decode cX5_kinds 3 = .ok (.iload_n 3, 1) := by decide +kernel
theorem dX5_kinds_4 : decode cX5_kinds 4 = .ok (.iload 4, 2) := by decide +kernel
theorem dX5_kinds_6 : decode cX5_kinds 6 = .ok (.iload 5, 2) := by decide +kernel
theorem dX5_kinds_8 : decode cX5_kinds 8 = .ok (.invokevirtual 170, 3) := by decide +kernel
theorem dX5_kinds_11 : decode cX5_kinds 11 = .ok (.istore 6, 2) := by decide +kernel
theorem dX5_kinds_13 : decode cX5_kinds 13 = .ok (.iload 6, 2) := by decide +kernel
theorem dX5_kinds_15 : decode cX5_kinds 15 = .ok (.ifCond .eq 6, 3) := by decide +kernel
theorem dX5_kinds_18 : decode cX5_kinds 18 = .ok (.iload 6, 2) := by decide +kernel
theorem dX5_kinds_20 : decode cX5_kinds 20 = .ok (.ireturn, 1) := by decide +kernel
theorem dX5_kinds_21 : decode cX5_kinds 21 = .ok (.aload_n 0, 1) := by decide +kernel
theorem dX5_kinds_22 : decode cX5_kinds 22 = .ok (.getfield 19, 3) := by decide +kernel
theorem dX5_kinds_25 : decode cX5_kinds 25 = .ok (.iload_n 1, 1) := by decide +kernel
theorem dX5_kinds_26 : decode cX5_kinds 26 = .ok (.iaload, 1) := by decide +kernel
theorem dX5_kinds_27 : decode cX5_kinds 27 = .ok (.istore 7, 2) := by decide +kernel
theorem dX5_kinds_29 : decode cX5_kinds 29 = .ok (.iconst 0, 1) := by decide +kernel
theorem dX5_kinds_30 : decode cX5_kinds 30 = .ok (.istore 8, 2) := by decide +kernel
theorem dX5_kinds_32 : decode cX5_kinds 32 = .ok (.iconst 0, 1) := by decide +kernel
theorem dX5_kinds_33 : decode cX5_kinds 33 = .ok (.istore 9, 2) := by decide +kernel
theorem dX5_kinds_35 : decode cX5_kinds 35 = .ok (.iload 9, 2) := by decide +kernel
theorem dX5_kinds_37 : decode cX5_kinds 37 = .ok (.iconst 3, 1) := by decide +kernel
theorem dX5_kinds_38 : decode cX5_kinds 38 = .ok (.if_icmp .ge 37, 3) := by decide +kernel
theorem dX5_kinds_41 : decode cX5_kinds 41 = .ok (.aload_n 0, 1) := by decide +kernel
theorem dX5_kinds_42 : decode cX5_kinds 42 = .ok (.getfield 19, 3) := by decide +kernel
theorem dX5_kinds_45 : decode cX5_kinds 45 = .ok (.iload_n 1, 1) := by decide +kernel
theorem dX5_kinds_46 : decode cX5_kinds 46 = .ok (.iload 9, 2) := by decide +kernel
theorem dX5_kinds_48 : decode cX5_kinds 48 = .ok (.iastore, 1) := by decide +kernel
theorem dX5_kinds_49 : decode cX5_kinds 49 = .ok (.iload 8, 2) := by decide +kernel
theorem dX5_kinds_51 : decode cX5_kinds 51 = .ok (.aload_n 0, 1) := by decide +kernel
theorem dX5_kinds_52 : decode cX5_kinds 52 = .ok (.invokevirtual 166, 3) := by decide +kernel
theorem dX5_kinds_55 : decode cX5_kinds 55 = .ok (.ifCond .eq 10, 3) := by decide +kernel
theorem dX5_kinds_58 : decode cX5_kinds 58 = .ok (.iconst 1, 1) := by decide +kernel
theorem dX5_kinds_59 : decode cX5_kinds 59 = .ok (.iload 9, 2) := by decide +kernel
theorem dX5_kinds_61 : decode cX5_kinds 61 = .ok (.ishl, 1) := by decide +kernel
theorem dX5_kinds_62 : decode cX5_kinds 62 = .ok (.goto 4, 3) := by decide +kernel
theorem dX5_kinds_65 : decode cX5_kinds 65 = .ok (.iconst 0, 1) := by decide +kernel
theorem dX5_kinds_66 : decode cX5_kinds 66 = .ok (.ior, 1) := by decide +kernel
theorem dX5_kinds_67 : decode cX5_kinds 67 = .ok (.istore 8, 2) := by decide +kernel
theorem dX5_kinds_69 : decode cX5_kinds 69 = .ok (.iinc 9 1, 3) := by decide +kernel
theorem dX5_kinds_72 : decode cX5_kinds 72 = .ok (.goto (-37), 3) := by decide +kernel
theorem dX5_kinds_75 : decode cX5_kinds 75 = .ok (.aload_n 0, 1) := by decide +kernel
theorem dX5_kinds_76 : decode cX5_kinds 76 = .ok (.getfield 19, 3) := by decide +kernel
theorem dX5_kinds_79 : decode cX5_kinds 79 = .ok (.iload_n 1, 1) := by decide +kernel
theorem dX5_kinds_80 : decode cX5_kinds 80 = .ok (.iload 7, 2) := by decide +kernel
theorem dX5_kinds_82 : decode cX5_kinds 82 = .ok (.iastore, 1) := by decide +kernel
theorem dX5_kinds_83 : decode cX5_kinds 83 = .ok (.iload 8, 2) := by decide +kernel
theorem dX5_kinds_85 : decode cX5_kinds 85 = .ok (.ireturn, 1) := by decide +kernel
set_option maxRecDepth 20000 in
theorem S_X5_kinds_0 {g : GG} {d : Nat} {F : Int32 → St → Prop} (a1 : Int32) (a2 : Int32) (a3 : Int32) (a4 : Int32) (a5 : Int32) (σ : St) (h : (ME g d M_X5_lay [vR 23, vI a1, vI a2, vI a3, vI a4, vI a5] σ (qI (fun r1 σ2 => ((r1 = 0 → (vp_in a1 5 ∧ VM g (d + 1) M_X5_kinds (qI F) 35 [(0, vR 23), (1, vI a1), (2, vI a2), (3, vI a3), (4, vI a4), (5, vI a5), (6, vI r1), (7, vI (σ2 27 a1.toNatClampNeg)), (8, vI 0), (9, vI 0)] [] σ2)) ∧ (¬ r1 = 0 → F r1 σ2)))))) : VM g (d + 1) M_X5_kinds (qI F) 0 [(0, vR 23), (1, vI a1), (2, vI a2), (3, vI a3), (4, vI a4), (5, vI a5)] [] σ := by
  refine VE_aload_n 0 dX5_kinds_0 (k := ?_)
  refine VE_iload_n 1 dX5_kinds_1 (k := ?_)
  refine VE_iload_n 2 dX5_kinds_2 (k := ?_)
  refine VE_iload_n 3 dX5_kinds_3 (k := ?_)
  refine VE_iload 4 dX5_kinds_4 (k := ?_)
  refine VE_iload 5 dX5_kinds_6 (k := ?_)
  refine VE_cVi [vI a1, vI a2, vI a3, vI a4, vI a5] dX5_kinds_8 ml_X5_170 h (fun r1 σ2 h3 => ?_) (rok_D d)
  refine VE_istore (ls' := [(6, vI r1), (0, vR 23), (1, vI a1), (2, vI a2), (3, vI a3), (4, vI a4), (5, vI a5)]) dX5_kinds_11 ?_
  refine VE_iload 0 dX5_kinds_13 (k := ?_)
  refine VE_if_eq 21 dX5_kinds_15 (fun c4 => ?_) (fun c4 => ?_)
  · refine VE_aload_n 1 dX5_kinds_21 (k := ?_)
    refine VE_getR 27 dX5_kinds_22 fl_X5_19 ?_
    refine VE_iload_n 2 dX5_kinds_25 (k := ?_)
    refine VE_iald dX5_kinds_26 (h3.1 c4).1 ?_
    refine VE_istore (ls' := [(7, vI (σ2 27 a1.toNatClampNeg)), (6, vI r1), (0, vR 23), (1, vI a1), (2, vI a2), (3, vI a3), (4, vI a4), (5, vI a5)]) dX5_kinds_27 ?_
    refine VE_iconst 0 dX5_kinds_29 (k := ?_)
    refine VE_istore (ls' := [(8, vI 0), (7, vI (σ2 27 a1.toNatClampNeg)), (6, vI r1), (0, vR 23), (1, vI a1), (2, vI a2), (3, vI a3), (4, vI a4), (5, vI a5)]) dX5_kinds_30 ?_
    refine VE_iconst 0 dX5_kinds_32 (k := ?_)
    refine VE_istore (ls' := [(9, vI 0), (8, vI 0), (7, vI (σ2 27 a1.toNatClampNeg)), (6, vI r1), (0, vR 23), (1, vI a1), (2, vI a2), (3, vI a3), (4, vI a4), (5, vI a5)]) dX5_kinds_33 ?_
    exact VE_sub [4, 5, 6, 7, 8, 9, 3, 2, 1, 0] rfl (h3.1 c4).2
  · refine VE_iload 0 dX5_kinds_18 (k := ?_)
    exact VM_iret dX5_kinds_20 (h3.2 c4)
set_option maxRecDepth 20000 in
theorem S_X5_kinds_35 {g : GG} {d : Nat} {F : Int32 → St → Prop} (x1 : Int32) (x2 : Int32) (x3 : Int32) (x4 : Int32) (x5 : Int32) (x6 : Int32) (x7 : Int32) (x8 : Int32) (x9 : Int32) (σ : St) (h : ((3 ≤ x9 → (vp_in x1 5 ∧ F x8 (sU σ 27 x1.toNatClampNeg x7))) ∧ (¬ 3 ≤ x9 → (vp_in x1 5 ∧ (ME g d M_X5_areSo [vR 23] (sU σ 27 x1.toNatClampNeg x9) (qI (fun r2 σ3 => ((r2 = 0 → VM g (d + 1) M_X5_kinds (qI F) 35 [(0, vR 23), (1, vI x1), (2, vI x2), (3, vI x3), (4, vI x4), (5, vI x5), (6, vI x6), (7, vI x7), (8, vI (x8 ||| 0)), (9, vI (x9 + 1))] [] σ3) ∧ (¬ r2 = 0 → VM g (d + 1) M_X5_kinds (qI F) 35 [(0, vR 23), (1, vI x1), (2, vI x2), (3, vI x3), (4, vI x4), (5, vI x5), (6, vI x6), (7, vI x7), (8, vI (x8 ||| (1 <<< (x9 &&& 31)))), (9, vI (x9 + 1))] [] σ3))))))))) : VM g (d + 1) M_X5_kinds (qI F) 35 [(0, vR 23), (1, vI x1), (2, vI x2), (3, vI x3), (4, vI x4), (5, vI x5), (6, vI x6), (7, vI x7), (8, vI x8), (9, vI x9)] [] σ := by
  refine VE_iload 9 dX5_kinds_35 (k := ?_)
  refine VE_iconst 3 dX5_kinds_37 (k := ?_)
  refine VE_icmp_ge 75 dX5_kinds_38 (fun c1 => ?_) (fun c1 => ?_)
  · refine VE_aload_n 0 dX5_kinds_75 (k := ?_)
    refine VE_getR 27 dX5_kinds_76 fl_X5_19 ?_
    refine VE_iload_n 1 dX5_kinds_79 (k := ?_)
    refine VE_iload 7 dX5_kinds_80 (k := ?_)
    refine VE_iast dX5_kinds_82 (h.1 c1).1 ?_
    refine VE_iload 8 dX5_kinds_83 (k := ?_)
    exact VM_iret dX5_kinds_85 (h.1 c1).2
  · refine VE_aload_n 0 dX5_kinds_41 (k := ?_)
    refine VE_getR 27 dX5_kinds_42 fl_X5_19 ?_
    refine VE_iload_n 1 dX5_kinds_45 (k := ?_)
    refine VE_iload 9 dX5_kinds_46 (k := ?_)
    refine VE_iast dX5_kinds_48 (h.2 c1).1 ?_
    refine VE_iload 8 dX5_kinds_49 (k := ?_)
    refine VE_aload_n 0 dX5_kinds_51 (k := ?_)
    refine VE_cVi [] dX5_kinds_52 ml_X5_166 (h.2 c1).2 (fun r2 σ3 h4 => ?_) (rok_D d)
    refine VE_if_eq 65 dX5_kinds_55 (fun c5 => ?_) (fun c5 => ?_)
    · refine VE_iconst 0 dX5_kinds_65 (k := ?_)
      refine VE_ior dX5_kinds_66 ?_
      refine VE_istore (ls' := [(8, vI (x8 ||| 0)), (0, vR 23), (1, vI x1), (2, vI x2), (3, vI x3), (4, vI x4), (5, vI x5), (6, vI x6), (7, vI x7), (9, vI x9)]) dX5_kinds_67 ?_
      refine VE_iinc 9 (x9 + 1) (ls' := [(9, vI (x9 + 1)), (8, vI (x8 ||| 0)), (0, vR 23), (1, vI x1), (2, vI x2), (3, vI x3), (4, vI x4), (5, vI x5), (6, vI x6), (7, vI x7)]) dX5_kinds_69 ?_
      refine VE_goto 35 dX5_kinds_72 ?_
      exact VE_sub [2, 3, 4, 5, 6, 7, 8, 9, 1, 0] rfl (h4.1 c5)
    · refine VE_iconst 1 dX5_kinds_58 (k := ?_)
      refine VE_iload 9 dX5_kinds_59 (k := ?_)
      refine VE_ishl dX5_kinds_61 ?_
      refine VE_goto 66 dX5_kinds_62 ?_
      refine VE_ior dX5_kinds_66 ?_
      refine VE_istore (ls' := [(8, vI (x8 ||| (1 <<< (x9 &&& 31)))), (0, vR 23), (1, vI x1), (2, vI x2), (3, vI x3), (4, vI x4), (5, vI x5), (6, vI x6), (7, vI x7), (9, vI x9)]) dX5_kinds_67 ?_
      refine VE_iinc 9 (x9 + 1) (ls' := [(9, vI (x9 + 1)), (8, vI (x8 ||| (1 <<< (x9 &&& 31)))), (0, vR 23), (1, vI x1), (2, vI x2), (3, vI x3), (4, vI x4), (5, vI x5), (6, vI x6), (7, vI x7)]) dX5_kinds_69 ?_
      refine VE_goto 35 dX5_kinds_72 ?_
      exact VE_sub [2, 3, 4, 5, 6, 7, 8, 9, 1, 0] rfl (h4.2 c5)
theorem dX5_wears_0 : decode cX5_wears 0 = .ok (.aload_n 0, 1) := by decide +kernel
theorem dX5_wears_1 : decode cX5_wears 1 = .ok (.iload_n 1, 1) := by decide +kernel
theorem dX5_wears_2 : decode cX5_wears 2 = .ok (.iload_n 2, 1) := by decide +kernel
theorem dX5_wears_3 : decode cX5_wears 3 = .ok (.iload_n 3, 1) := by decide +kernel
theorem dX5_wears_4 : decode cX5_wears 4 = .ok (.iload 4, 2) := by decide +kernel
theorem dX5_wears_6 : decode cX5_wears 6 = .ok (.iload 5, 2) := by decide +kernel
theorem dX5_wears_8 : decode cX5_wears 8 = .ok (.invokevirtual 170, 3) := by decide +kernel
theorem dX5_wears_11 : decode cX5_wears 11 = .ok (.istore 6, 2) := by decide +kernel
theorem dX5_wears_13 : decode cX5_wears 13 = .ok (.iload 6, 2) := by decide +kernel
theorem dX5_wears_15 : decode cX5_wears 15 = .ok (.ifCond .eq 6, 3) := by decide +kernel
theorem dX5_wears_18 : decode cX5_wears 18 = .ok (.iload 6, 2) := by decide +kernel
theorem dX5_wears_20 : decode cX5_wears 20 = .ok (.ireturn, 1) := by decide +kernel
theorem dX5_wears_21 : decode cX5_wears 21 = .ok (.aload_n 0, 1) := by decide +kernel
theorem dX5_wears_22 : decode cX5_wears 22 = .ok (.getfield 22, 3) := by decide +kernel
theorem dX5_wears_25 : decode cX5_wears 25 = .ok (.iload_n 1, 1) := by decide +kernel
theorem dX5_wears_26 : decode cX5_wears 26 = .ok (.iaload, 1) := by decide +kernel
theorem dX5_wears_27 : decode cX5_wears 27 = .ok (.istore 7, 2) := by decide +kernel
theorem dX5_wears_29 : decode cX5_wears 29 = .ok (.iconst 0, 1) := by decide +kernel
theorem dX5_wears_30 : decode cX5_wears 30 = .ok (.istore 8, 2) := by decide +kernel
theorem dX5_wears_32 : decode cX5_wears 32 = .ok (.iconst 1, 1) := by decide +kernel
theorem dX5_wears_33 : decode cX5_wears 33 = .ok (.istore 9, 2) := by decide +kernel
theorem dX5_wears_35 : decode cX5_wears 35 = .ok (.iload 9, 2) := by decide +kernel
theorem dX5_wears_37 : decode cX5_wears 37 = .ok (.bipush 9, 2) := by decide +kernel
theorem dX5_wears_39 : decode cX5_wears 39 = .ok (.if_icmp .gt 37, 3) := by decide +kernel
theorem dX5_wears_42 : decode cX5_wears 42 = .ok (.aload_n 0, 1) := by decide +kernel
theorem dX5_wears_43 : decode cX5_wears 43 = .ok (.getfield 22, 3) := by decide +kernel
theorem dX5_wears_46 : decode cX5_wears 46 = .ok (.iload_n 1, 1) := by decide +kernel
theorem dX5_wears_47 : decode cX5_wears 47 = .ok (.iload 9, 2) := by decide +kernel
theorem dX5_wears_49 : decode cX5_wears 49 = .ok (.iastore, 1) := by decide +kernel
theorem dX5_wears_50 : decode cX5_wears 50 = .ok (.iload 8, 2) := by decide +kernel
theorem dX5_wears_52 : decode cX5_wears 52 = .ok (.aload_n 0, 1) := by decide +kernel
theorem dX5_wears_53 : decode cX5_wears 53 = .ok (.invokevirtual 166, 3) := by decide +kernel
theorem dX5_wears_56 : decode cX5_wears 56 = .ok (.ifCond .eq 10, 3) := by decide +kernel
theorem dX5_wears_59 : decode cX5_wears 59 = .ok (.iconst 1, 1) := by decide +kernel
theorem dX5_wears_60 : decode cX5_wears 60 = .ok (.iload 9, 2) := by decide +kernel
theorem dX5_wears_62 : decode cX5_wears 62 = .ok (.ishl, 1) := by decide +kernel
theorem dX5_wears_63 : decode cX5_wears 63 = .ok (.goto 4, 3) := by decide +kernel
theorem dX5_wears_66 : decode cX5_wears 66 = .ok (.iconst 0, 1) := by decide +kernel
theorem dX5_wears_67 : decode cX5_wears 67 = .ok (.ior, 1) := by decide +kernel
theorem dX5_wears_68 : decode cX5_wears 68 = .ok (.istore 8, 2) := by decide +kernel
theorem dX5_wears_70 : decode cX5_wears 70 = .ok (.iinc 9 1, 3) := by decide +kernel
theorem dX5_wears_73 : decode cX5_wears 73 = .ok (.goto (-38), 3) := by decide +kernel
theorem dX5_wears_76 : decode cX5_wears 76 = .ok (.aload_n 0, 1) := by decide +kernel
theorem dX5_wears_77 : decode cX5_wears 77 = .ok (.getfield 22, 3) := by decide +kernel
theorem dX5_wears_80 : decode cX5_wears 80 = .ok (.iload_n 1, 1) := by decide +kernel
theorem dX5_wears_81 : decode cX5_wears 81 = .ok (.iload 7, 2) := by decide +kernel
theorem dX5_wears_83 : decode cX5_wears 83 = .ok (.iastore, 1) := by decide +kernel
theorem dX5_wears_84 : decode cX5_wears 84 = .ok (.iload 8, 2) := by decide +kernel
theorem dX5_wears_86 : decode cX5_wears 86 = .ok (.ireturn, 1) := by decide +kernel
set_option maxRecDepth 20000 in
theorem S_X5_wears_0 {g : GG} {d : Nat} {F : Int32 → St → Prop} (a1 : Int32) (a2 : Int32) (a3 : Int32) (a4 : Int32) (a5 : Int32) (σ : St) (h : (ME g d M_X5_lay [vR 23, vI a1, vI a2, vI a3, vI a4, vI a5] σ (qI (fun r1 σ2 => ((r1 = 0 → (vp_in a1 5 ∧ VM g (d + 1) M_X5_wears (qI F) 35 [(0, vR 23), (1, vI a1), (2, vI a2), (3, vI a3), (4, vI a4), (5, vI a5), (6, vI r1), (7, vI (σ2 28 a1.toNatClampNeg)), (8, vI 0), (9, vI 1)] [] σ2)) ∧ (¬ r1 = 0 → F r1 σ2)))))) : VM g (d + 1) M_X5_wears (qI F) 0 [(0, vR 23), (1, vI a1), (2, vI a2), (3, vI a3), (4, vI a4), (5, vI a5)] [] σ := by
  refine VE_aload_n 0 dX5_wears_0 (k := ?_)
  refine VE_iload_n 1 dX5_wears_1 (k := ?_)
  refine VE_iload_n 2 dX5_wears_2 (k := ?_)
  refine VE_iload_n 3 dX5_wears_3 (k := ?_)
  refine VE_iload 4 dX5_wears_4 (k := ?_)
  refine VE_iload 5 dX5_wears_6 (k := ?_)
  refine VE_cVi [vI a1, vI a2, vI a3, vI a4, vI a5] dX5_wears_8 ml_X5_170 h (fun r1 σ2 h3 => ?_) (rok_D d)
  refine VE_istore (ls' := [(6, vI r1), (0, vR 23), (1, vI a1), (2, vI a2), (3, vI a3), (4, vI a4), (5, vI a5)]) dX5_wears_11 ?_
  refine VE_iload 0 dX5_wears_13 (k := ?_)
  refine VE_if_eq 21 dX5_wears_15 (fun c4 => ?_) (fun c4 => ?_)
  · refine VE_aload_n 1 dX5_wears_21 (k := ?_)
    refine VE_getR 28 dX5_wears_22 fl_X5_22 ?_
    refine VE_iload_n 2 dX5_wears_25 (k := ?_)
    refine VE_iald dX5_wears_26 (h3.1 c4).1 ?_
    refine VE_istore (ls' := [(7, vI (σ2 28 a1.toNatClampNeg)), (6, vI r1), (0, vR 23), (1, vI a1), (2, vI a2), (3, vI a3), (4, vI a4), (5, vI a5)]) dX5_wears_27 ?_
    refine VE_iconst 0 dX5_wears_29 (k := ?_)
    refine VE_istore (ls' := [(8, vI 0), (7, vI (σ2 28 a1.toNatClampNeg)), (6, vI r1), (0, vR 23), (1, vI a1), (2, vI a2), (3, vI a3), (4, vI a4), (5, vI a5)]) dX5_wears_30 ?_
    refine VE_iconst 1 dX5_wears_32 (k := ?_)
    refine VE_istore (ls' := [(9, vI 1), (8, vI 0), (7, vI (σ2 28 a1.toNatClampNeg)), (6, vI r1), (0, vR 23), (1, vI a1), (2, vI a2), (3, vI a3), (4, vI a4), (5, vI a5)]) dX5_wears_33 ?_
    exact VE_sub [4, 5, 6, 7, 8, 9, 3, 2, 1, 0] rfl (h3.1 c4).2
  · refine VE_iload 0 dX5_wears_18 (k := ?_)
    exact VM_iret dX5_wears_20 (h3.2 c4)
set_option maxRecDepth 20000 in
theorem S_X5_wears_35 {g : GG} {d : Nat} {F : Int32 → St → Prop} (x1 : Int32) (x2 : Int32) (x3 : Int32) (x4 : Int32) (x5 : Int32) (x6 : Int32) (x7 : Int32) (x8 : Int32) (x9 : Int32) (σ : St) (h : ((9 < x9 → (vp_in x1 5 ∧ F x8 (sU σ 28 x1.toNatClampNeg x7))) ∧ (¬ 9 < x9 → (vp_in x1 5 ∧ (ME g d M_X5_areSo [vR 23] (sU σ 28 x1.toNatClampNeg x9) (qI (fun r2 σ3 => ((r2 = 0 → VM g (d + 1) M_X5_wears (qI F) 35 [(0, vR 23), (1, vI x1), (2, vI x2), (3, vI x3), (4, vI x4), (5, vI x5), (6, vI x6), (7, vI x7), (8, vI (x8 ||| 0)), (9, vI (x9 + 1))] [] σ3) ∧ (¬ r2 = 0 → VM g (d + 1) M_X5_wears (qI F) 35 [(0, vR 23), (1, vI x1), (2, vI x2), (3, vI x3), (4, vI x4), (5, vI x5), (6, vI x6), (7, vI x7), (8, vI (x8 ||| (1 <<< (x9 &&& 31)))), (9, vI (x9 + 1))] [] σ3))))))))) : VM g (d + 1) M_X5_wears (qI F) 35 [(0, vR 23), (1, vI x1), (2, vI x2), (3, vI x3), (4, vI x4), (5, vI x5), (6, vI x6), (7, vI x7), (8, vI x8), (9, vI x9)] [] σ := by
  refine VE_iload 9 dX5_wears_35 (k := ?_)
  refine VE_bipush 9 dX5_wears_37 (k := ?_)
  refine VE_icmp_gt 76 dX5_wears_39 (fun c1 => ?_) (fun c1 => ?_)
  · refine VE_aload_n 0 dX5_wears_76 (k := ?_)
    refine VE_getR 28 dX5_wears_77 fl_X5_22 ?_
    refine VE_iload_n 1 dX5_wears_80 (k := ?_)
    refine VE_iload 7 dX5_wears_81 (k := ?_)
    refine VE_iast dX5_wears_83 (h.1 c1).1 ?_
    refine VE_iload 8 dX5_wears_84 (k := ?_)
    exact VM_iret dX5_wears_86 (h.1 c1).2
  · refine VE_aload_n 0 dX5_wears_42 (k := ?_)
    refine VE_getR 28 dX5_wears_43 fl_X5_22 ?_
    refine VE_iload_n 1 dX5_wears_46 (k := ?_)
    refine VE_iload 9 dX5_wears_47 (k := ?_)
    refine VE_iast dX5_wears_49 (h.2 c1).1 ?_
    refine VE_iload 8 dX5_wears_50 (k := ?_)
    refine VE_aload_n 0 dX5_wears_52 (k := ?_)
    refine VE_cVi [] dX5_wears_53 ml_X5_166 (h.2 c1).2 (fun r2 σ3 h4 => ?_) (rok_D d)
    refine VE_if_eq 66 dX5_wears_56 (fun c5 => ?_) (fun c5 => ?_)
    · refine VE_iconst 0 dX5_wears_66 (k := ?_)
      refine VE_ior dX5_wears_67 ?_
      refine VE_istore (ls' := [(8, vI (x8 ||| 0)), (0, vR 23), (1, vI x1), (2, vI x2), (3, vI x3), (4, vI x4), (5, vI x5), (6, vI x6), (7, vI x7), (9, vI x9)]) dX5_wears_68 ?_
      refine VE_iinc 9 (x9 + 1) (ls' := [(9, vI (x9 + 1)), (8, vI (x8 ||| 0)), (0, vR 23), (1, vI x1), (2, vI x2), (3, vI x3), (4, vI x4), (5, vI x5), (6, vI x6), (7, vI x7)]) dX5_wears_70 ?_
      refine VE_goto 35 dX5_wears_73 ?_
      exact VE_sub [2, 3, 4, 5, 6, 7, 8, 9, 1, 0] rfl (h4.1 c5)
    · refine VE_iconst 1 dX5_wears_59 (k := ?_)
      refine VE_iload 9 dX5_wears_60 (k := ?_)
      refine VE_ishl dX5_wears_62 ?_
      refine VE_goto 67 dX5_wears_63 ?_
      refine VE_ior dX5_wears_67 ?_
      refine VE_istore (ls' := [(8, vI (x8 ||| (1 <<< (x9 &&& 31)))), (0, vR 23), (1, vI x1), (2, vI x2), (3, vI x3), (4, vI x4), (5, vI x5), (6, vI x6), (7, vI x7), (9, vI x9)]) dX5_wears_68 ?_
      refine VE_iinc 9 (x9 + 1) (ls' := [(9, vI (x9 + 1)), (8, vI (x8 ||| (1 <<< (x9 &&& 31)))), (0, vR 23), (1, vI x1), (2, vI x2), (3, vI x3), (4, vI x4), (5, vI x5), (6, vI x6), (7, vI x7)]) dX5_wears_70 ?_
      refine VE_goto 35 dX5_wears_73 ?_
      exact VE_sub [2, 3, 4, 5, 6, 7, 8, 9, 1, 0] rfl (h4.2 c5)
theorem dX5_inLeastTerms_0 : decode cX5_inLeastTerms 0 = .ok (.lload_n 0, 1) := by decide +kernel
theorem dX5_inLeastTerms_1 : decode cX5_inLeastTerms 1 = .ok (.lstore 5, 2) := by decide +kernel
theorem dX5_inLeastTerms_3 : decode cX5_inLeastTerms 3 = .ok (.lload_n 2, 1) := by decide +kernel
theorem dX5_inLeastTerms_4 : decode cX5_inLeastTerms 4 = .ok (.lstore 7, 2) := by decide +kernel
theorem dX5_inLeastTerms_6 : decode cX5_inLeastTerms 6 = .ok (.lload 7, 2) := by decide +kernel
theorem dX5_inLeastTerms_8 : decode cX5_inLeastTerms 8 = .ok (.lconst 0, 1) := by decide +kernel
theorem dX5_inLeastTerms_9 : decode cX5_inLeastTerms 9 = .ok (.lcmp, 1) := by decide +kernel
theorem dX5_inLeastTerms_10 : decode cX5_inLeastTerms 10 = .ok (.ifCond .eq 21, 3) := by decide +kernel
theorem dX5_inLeastTerms_13 : decode cX5_inLeastTerms 13 = .ok (.lload 5, 2) := by decide +kernel
theorem dX5_inLeastTerms_15 : decode cX5_inLeastTerms 15 = .ok (.lload 7, 2) := by decide +kernel
theorem dX5_inLeastTerms_17 : decode cX5_inLeastTerms 17 = .ok (.lrem, 1) := by decide +kernel
theorem dX5_inLeastTerms_18 : decode cX5_inLeastTerms 18 = .ok (.lstore 9, 2) := by decide +kernel
theorem dX5_inLeastTerms_20 : decode cX5_inLeastTerms 20 = .ok (.lload 7, 2) := by decide +kernel
theorem dX5_inLeastTerms_22 : decode cX5_inLeastTerms 22 = .ok (.lstore 5, 2) := by decide +kernel
theorem dX5_inLeastTerms_24 : decode cX5_inLeastTerms 24 = .ok (.lload 9, 2) := by decide +kernel
theorem dX5_inLeastTerms_26 : decode cX5_inLeastTerms 26 = .ok (.lstore 7, 2) := by decide +kernel
theorem dX5_inLeastTerms_28 : decode cX5_inLeastTerms 28 = .ok (.goto (-22), 3) := by decide +kernel
theorem dX5_inLeastTerms_31 : decode cX5_inLeastTerms 31 = .ok (.iload 4, 2) := by decide +kernel
theorem dX5_inLeastTerms_33 : decode cX5_inLeastTerms 33 = .ok (.ifCond .ne 10, 3) := by decide +kernel
theorem dX5_inLeastTerms_36 : decode cX5_inLeastTerms 36 = .ok (.lload_n 0, 1) := by decide +kernel
theorem dX5_inLeastTerms_37 : decode cX5_inLeastTerms 37 = .ok (.lload 5, 2) := by decide +kernel
theorem dX5_inLeastTerms_39 : decode cX5_inLeastTerms 39 = .ok (.ldiv, 1) := by decide +kernel
theorem dX5_inLeastTerms_40 : decode cX5_inLeastTerms 40 = .ok (.goto 7, 3) := by decide +kernel
theorem dX5_inLeastTerms_43 : decode cX5_inLeastTerms 43 = .ok (.lload_n 2, 1) := by decide +kernel
theorem dX5_inLeastTerms_44 : decode cX5_inLeastTerms 44 = .ok (.lload 5, 2) := by decide +kernel
theorem dX5_inLeastTerms_46 : decode cX5_inLeastTerms 46 = .ok (.ldiv, 1) := by decide +kernel
theorem dX5_inLeastTerms_47 : decode cX5_inLeastTerms 47 = .ok (.lreturn, 1) := by decide +kernel
set_option maxRecDepth 20000 in
theorem S_X5_inLeastTerms_0 {g : GG} {d : Nat} {F : Int64 → St → Prop} (a1 : Int64) (a2 : Int64) (a3 : Int32) (σ : St) (h : VM g d M_X5_inLeastTerms (qL F) 6 [(0, vL a1), (2, vL a2), (4, vI a3), (5, vL a1), (7, vL a2)] [] σ) : VM g d M_X5_inLeastTerms (qL F) 0 [(0, vL a1), (2, vL a2), (4, vI a3)] [] σ := by
  refine VE_lload_n 0 dX5_inLeastTerms_0 (k := ?_)
  refine VE_lstore (ls' := [(5, vL a1), (0, vL a1), (2, vL a2), (4, vI a3)]) dX5_inLeastTerms_1 ?_
  refine VE_lload_n 2 dX5_inLeastTerms_3 (k := ?_)
  refine VE_lstore (ls' := [(7, vL a2), (5, vL a1), (0, vL a1), (2, vL a2), (4, vI a3)]) dX5_inLeastTerms_4 ?_
  exact VE_sub [2, 3, 4, 1, 0] rfl h
set_option maxRecDepth 20000 in
theorem S_X5_inLeastTerms_6 {g : GG} {d : Nat} {F : Int64 → St → Prop} (x0 : Int64) (x2 : Int64) (x4 : Int32) (x5 : Int64) (x7 : Int64) (σ : St) (h : (((lg_cmp x7 0) = 0 → ((¬ x4 = 0 → (¬ x5 = 0 ∧ F (x2 / x5) σ)) ∧ (x4 = 0 → (¬ x5 = 0 ∧ F (x0 / x5) σ)))) ∧ (¬ (lg_cmp x7 0) = 0 → (¬ x7 = 0 ∧ VM g d M_X5_inLeastTerms (qL F) 6 [(0, vL x0), (2, vL x2), (4, vI x4), (5, vL x7), (7, vL (x5 - x5 / x7 * x7))] [] σ)))) : VM g d M_X5_inLeastTerms (qL F) 6 [(0, vL x0), (2, vL x2), (4, vI x4), (5, vL x5), (7, vL x7)] [] σ := by
  refine VE_lload 4 dX5_inLeastTerms_6 (k := ?_)
  refine VE_lconst 0 dX5_inLeastTerms_8 (k := ?_)
  refine VE_lcmp dX5_inLeastTerms_9 ?_
  refine VE_if_eq 31 dX5_inLeastTerms_10 (fun c1 => ?_) (fun c1 => ?_)
  · refine VE_iload 2 dX5_inLeastTerms_31 (k := ?_)
    refine VE_if_ne 43 dX5_inLeastTerms_33 (fun c2 => ?_) (fun c2 => ?_)
    · refine VE_lload_n 1 dX5_inLeastTerms_43 (k := ?_)
      refine VE_lload 3 dX5_inLeastTerms_44 (k := ?_)
      refine VE_ldiv dX5_inLeastTerms_46 ((h.1 c1).1 c2).1 ?_
      exact VM_lret dX5_inLeastTerms_47 ((h.1 c1).1 c2).2
    · refine VE_lload_n 0 dX5_inLeastTerms_36 (k := ?_)
      refine VE_lload 3 dX5_inLeastTerms_37 (k := ?_)
      refine VE_ldiv dX5_inLeastTerms_39 ((h.1 c1).2 c2).1 ?_
      refine VE_goto 47 dX5_inLeastTerms_40 ?_
      exact VM_lret dX5_inLeastTerms_47 ((h.1 c1).2 c2).2
  · refine VE_lload 3 dX5_inLeastTerms_13 (k := ?_)
    refine VE_lload 4 dX5_inLeastTerms_15 (k := ?_)
    refine VE_lrem dX5_inLeastTerms_17 (h.2 c1).1 ?_
    refine VE_lstore (ls' := [(9, vL (x5 - x5 / x7 * x7)), (0, vL x0), (2, vL x2), (4, vI x4), (5, vL x5), (7, vL x7)]) dX5_inLeastTerms_18 ?_
    refine VE_lload 5 dX5_inLeastTerms_20 (k := ?_)
    refine VE_lstore (ls' := [(5, vL x7), (9, vL (x5 - x5 / x7 * x7)), (0, vL x0), (2, vL x2), (4, vI x4), (7, vL x7)]) dX5_inLeastTerms_22 ?_
    refine VE_lload 1 dX5_inLeastTerms_24 (k := ?_)
    refine VE_lstore (ls' := [(7, vL (x5 - x5 / x7 * x7)), (5, vL x7), (9, vL (x5 - x5 / x7 * x7)), (0, vL x0), (2, vL x2), (4, vI x4)]) dX5_inLeastTerms_26 ?_
    refine VE_goto 6 dX5_inLeastTerms_28 ?_
    exact VE_sub [3, 4, 5, 1, 0] rfl (h.2 c1).2
theorem dX5_odds_0 : decode cX5_odds 0 = .ok (.aload_n 0, 1) := by decide +kernel
theorem dX5_odds_1 : decode cX5_odds 1 = .ok (.iload_n 1, 1) := by decide +kernel
theorem dX5_odds_2 : decode cX5_odds 2 = .ok (.invokevirtual 100, 3) := by decide +kernel
theorem dX5_odds_5 : decode cX5_odds 5 = .ok (.ifCond .eq 30, 3) := by decide +kernel
theorem dX5_odds_8 : decode cX5_odds 8 = .ok (.aload_n 0, 1) := by decide +kernel
theorem dX5_odds_9 : decode cX5_odds 9 = .ok (.iload_n 2, 1) := by decide +kernel
theorem dX5_odds_10 : decode cX5_odds 10 = .ok (.invokevirtual 100, 3) := by decide +kernel
theorem dX5_odds_13 : decode cX5_odds 13 = .ok (.ifCond .eq 22, 3) := by decide +kernel
theorem dX5_odds_16 : decode cX5_odds 16 = .ok (.iload_n 3, 1) := by decide +kernel
theorem dX5_odds_17 : decode cX5_odds 17 = .ok (.iconst 0, 1) := by decide +kernel
theorem dX5_odds_18 : decode cX5_odds 18 = .ok (.iconst 5, 1) := by decide +kernel
theorem dX5_odds_19 : decode cX5_odds 19 = .ok (.invokestatic 55, 3) := by decide +kernel
theorem dX5_odds_22 : decode cX5_odds 22 = .ok (.ifCond .eq 13, 3) := by decide +kernel
theorem dX5_odds_25 : decode cX5_odds 25 = .ok (.iload 4, 2) := by decide +kernel
theorem dX5_odds_27 : decode cX5_odds 27 = .ok (.iconst 0, 1) := by decide +kernel
theorem dX5_odds_28 : decode cX5_odds 28 = .ok (.iconst 1, 1) := by decide +kernel
theorem dX5_odds_29 : decode cX5_odds 29 = .ok (.invokestatic 55, 3) := by decide +kernel
theorem dX5_odds_32 : decode cX5_odds 32 = .ok (.ifCond .ne 7, 3) := by decide +kernel
theorem dX5_odds_35 : decode cX5_odds 35 = .ok (.ldc2_w 53, 3) := by decide +kernel
theorem dX5_odds_38 : decode cX5_odds 38 = .ok (.lreturn, 1) := by decide +kernel
theorem dX5_odds_39 : decode cX5_odds 39 = .ok (.iconst 1, 1) := by decide +kernel
theorem dX5_odds_40 : decode cX5_odds 40 = .ok (.istore 5, 2) := by decide +kernel
theorem dX5_odds_42 : decode cX5_odds 42 = .ok (.iconst 0, 1) := by decide +kernel
theorem dX5_odds_43 : decode cX5_odds 43 = .ok (.istore 6, 2) := by decide +kernel
theorem dX5_odds_45 : decode cX5_odds 45 = .ok (.iload 6, 2) := by decide +kernel
theorem dX5_odds_47 : decode cX5_odds 47 = .ok (.iload_n 3, 1) := by decide +kernel
theorem dX5_odds_48 : decode cX5_odds 48 = .ok (.if_icmp .ge 18, 3) := by decide +kernel
theorem dX5_odds_51 : decode cX5_odds 51 = .ok (.iload 5, 2) := by decide +kernel
theorem dX5_odds_53 : decode cX5_odds 53 = .ok (.aload_n 0, 1) := by decide +kernel
theorem dX5_odds_54 : decode cX5_odds 54 = .ok (.getfield 59, 3) := by decide +kernel
theorem dX5_odds_57 : decode cX5_odds 57 = .ok (.imul, 1) := by decide +kernel
theorem dX5_odds_58 : decode cX5_odds 58 = .ok (.istore 5, 2) := by decide +kernel
theorem dX5_odds_60 : decode cX5_odds 60 = .ok (.iinc 6 1, 3) := by decide +kernel
theorem dX5_odds_63 : decode cX5_odds 63 = .ok (.goto (-18), 3) := by decide +kernel
theorem dX5_odds_66 : decode cX5_odds 66 = .ok (.iconst 0, 1) := by decide +kernel
theorem dX5_odds_67 : decode cX5_odds 67 = .ok (.istore 6, 2) := by decide +kernel
theorem dX5_odds_69 : decode cX5_odds 69 = .ok (.iconst 0, 1) := by decide +kernel
theorem dX5_odds_70 : decode cX5_odds 70 = .ok (.istore 7, 2) := by decide +kernel
theorem dX5_odds_72 : decode cX5_odds 72 = .ok (.iload 7, 2) := by decide +kernel
theorem dX5_odds_74 : decode cX5_odds 74 = .ok (.iload 5, 2) := by decide +kernel
theorem dX5_odds_76 : decode cX5_odds 76 = .ok (.if_icmp .ge 45, 3) := by decide +kernel
theorem dX5_odds_79 : decode cX5_odds 79 = .ok (.aload_n 0, 1) := by decide +kernel
theorem dX5_odds_80 : decode cX5_odds 80 = .ok (.iload 7, 2) := by decide +kernel
theorem dX5_odds_82 : decode cX5_odds 82 = .ok (.iload_n 3, 1) := by decide +kernel
theorem dX5_odds_83 : decode cX5_odds 83 = .ok (.invokevirtual 156, 3) := by decide +kernel
theorem dX5_odds_86 : decode cX5_odds 86 = .ok (.iload 6, 2) := by decide +kernel
theorem dX5_odds_88 : decode cX5_odds 88 = .ok (.aload_n 0, 1) := by decide +kernel
theorem dX5_odds_89 : decode cX5_odds 89 = .ok (.invokevirtual 131, 3) := by decide +kernel
theorem dX5_odds_92 : decode cX5_odds 92 = .ok (.bipush (-9), 2) := by decide +kernel
theorem dX5_odds_94 : decode cX5_odds 94 = .ok (.if_icmp .ne 17, 3) := by decide +kernel
theorem dX5_odds_97 : decode cX5_odds 97 = .ok (.aload_n 0, 1) := by decide +kernel
theorem dX5_odds_98 : decode cX5_odds 98 = .ok (.getfield 31, 3) := by decide +kernel
theorem dX5_odds_101 : decode cX5_odds 101 = .ok (.iload_n 1, 1) := by decide +kernel
theorem dX5_odds_102 : decode cX5_odds 102 = .ok (.iaload, 1) := by decide +kernel
theorem dX5_odds_103 : decode cX5_odds 103 = .ok (.iload_n 2, 1) := by decide +kernel
theorem dX5_odds_104 : decode cX5_odds 104 = .ok (.if_icmp .ne 7, 3) := by decide +kernel
theorem dX5_odds_107 : decode cX5_odds 107 = .ok (.iconst 1, 1) := by decide +kernel
theorem dX5_odds_108 : decode cX5_odds 108 = .ok (.goto 4, 3) := by decide +kernel
theorem dX5_odds_111 : decode cX5_odds 111 = .ok (.iconst 0, 1) := by decide +kernel
theorem dX5_odds_112 : decode cX5_odds 112 = .ok (.iadd, 1) := by decide +kernel
theorem dX5_odds_113 : decode cX5_odds 113 = .ok (.istore 6, 2) := by decide +kernel
theorem dX5_odds_115 : decode cX5_odds 115 = .ok (.iinc 7 1, 3) := by decide +kernel
theorem dX5_odds_118 : decode cX5_odds 118 = .ok (.goto (-46), 3) := by decide +kernel
theorem dX5_odds_121 : decode cX5_odds 121 = .ok (.iload 6, 2) := by decide +kernel
theorem dX5_odds_123 : decode cX5_odds 123 = .ok (.i2l, 1) := by decide +kernel
theorem dX5_odds_124 : decode cX5_odds 124 = .ok (.iload 5, 2) := by decide +kernel
theorem dX5_odds_126 : decode cX5_odds 126 = .ok (.i2l, 1) := by decide +kernel
theorem dX5_odds_127 : decode cX5_odds 127 = .ok (.iload 4, 2) := by decide +kernel
theorem dX5_odds_129 : decode cX5_odds 129 = .ok (.invokestatic 174, 3) := by decide +kernel
theorem dX5_odds_132 : decode cX5_odds 132 = .ok (.lreturn, 1) := by decide +kernel
set_option maxRecDepth 20000 in
theorem S_X5_odds_0 {g : GG} {d : Nat} {F : Int64 → St → Prop} (a1 : Int32) (a2 : Int32) (a3 : Int32) (a4 : Int32) (σ : St) (h : (ME g d M_X5_isHead [vR 23, vI a1] σ (qI (fun r1 σ2 => ((r1 = 0 → F (-9223372036854775808) σ2) ∧ (¬ r1 = 0 → (ME g d M_X5_isHead [vR 23, vI a2] σ2 (qI (fun r5 σ6 => ((r5 = 0 → F (-9223372036854775808) σ6) ∧ (¬ r5 = 0 → (ME g d M_X5_within [vI a3, vI 0, vI 5] σ6 (qI (fun r9 σ10 => ((r9 = 0 → F (-9223372036854775808) σ10) ∧ (¬ r9 = 0 → (ME g d M_X5_within [vI a4, vI 0, vI 1] σ10 (qI (fun r13 σ14 => ((¬ r13 = 0 → VM g (d + 1) M_X5_odds (qL F) 45 [(0, vR 23), (1, vI a1), (2, vI a2), (3, vI a3), (4, vI a4), (5, vI 1), (6, vI 0)] [] σ14) ∧ (r13 = 0 → F (-9223372036854775808) σ14))))))))))))))))))))) : VM g (d + 1) M_X5_odds (qL F) 0 [(0, vR 23), (1, vI a1), (2, vI a2), (3, vI a3), (4, vI a4)] [] σ := by
  refine VE_aload_n 0 dX5_odds_0 (k := ?_)
  refine VE_iload_n 1 dX5_odds_1 (k := ?_)
  refine VE_cVi [vI a1] dX5_odds_2 ml_X5_100 h (fun r1 σ2 h3 => ?_) (rok_D d)
  refine VE_if_eq 35 dX5_odds_5 (fun c4 => ?_) (fun c4 => ?_)
  · refine VE_ldc2 (-9223372036854775808) 695 dX5_odds_35 ⟨by decide +kernel, rfl⟩ ?_
    exact VM_lret dX5_odds_38 (h3.1 c4)
  · refine VE_aload_n 0 dX5_odds_8 (k := ?_)
    refine VE_iload_n 2 dX5_odds_9 (k := ?_)
    refine VE_cVi [vI a2] dX5_odds_10 ml_X5_100 (h3.2 c4) (fun r5 σ6 h7 => ?_) (rok_D d)
    refine VE_if_eq 35 dX5_odds_13 (fun c8 => ?_) (fun c8 => ?_)
    · refine VE_ldc2 (-9223372036854775808) 695 dX5_odds_35 ⟨by decide +kernel, rfl⟩ ?_
      exact VM_lret dX5_odds_38 (h7.1 c8)
    · refine VE_iload_n 3 dX5_odds_16 (k := ?_)
      refine VE_iconst 0 dX5_odds_17 (k := ?_)
      refine VE_iconst 5 dX5_odds_18 (k := ?_)
      refine VE_cSi [vI a3, vI 0, vI 5] dX5_odds_19 ml_X5_55 (h7.2 c8) (fun r9 σ10 h11 => ?_) (rok_D d)
      refine VE_if_eq 35 dX5_odds_22 (fun c12 => ?_) (fun c12 => ?_)
      · refine VE_ldc2 (-9223372036854775808) 695 dX5_odds_35 ⟨by decide +kernel, rfl⟩ ?_
        exact VM_lret dX5_odds_38 (h11.1 c12)
      · refine VE_iload 4 dX5_odds_25 (k := ?_)
        refine VE_iconst 0 dX5_odds_27 (k := ?_)
        refine VE_iconst 1 dX5_odds_28 (k := ?_)
        refine VE_cSi [vI a4, vI 0, vI 1] dX5_odds_29 ml_X5_55 (h11.2 c12) (fun r13 σ14 h15 => ?_) (rok_D d)
        refine VE_if_ne 39 dX5_odds_32 (fun c16 => ?_) (fun c16 => ?_)
        · refine VE_iconst 1 dX5_odds_39 (k := ?_)
          refine VE_istore (ls' := [(5, vI 1), (0, vR 23), (1, vI a1), (2, vI a2), (3, vI a3), (4, vI a4)]) dX5_odds_40 ?_
          refine VE_iconst 0 dX5_odds_42 (k := ?_)
          refine VE_istore (ls' := [(6, vI 0), (5, vI 1), (0, vR 23), (1, vI a1), (2, vI a2), (3, vI a3), (4, vI a4)]) dX5_odds_43 ?_
          exact VE_sub [2, 3, 4, 5, 6, 1, 0] rfl (h15.1 c16)
        · refine VE_ldc2 (-9223372036854775808) 695 dX5_odds_35 ⟨by decide +kernel, rfl⟩ ?_
          exact VM_lret dX5_odds_38 (h15.2 c16)
set_option maxRecDepth 20000 in
theorem S_X5_odds_45 {g : GG} {d : Nat} {F : Int64 → St → Prop} (x1 : Int32) (x2 : Int32) (x3 : Int32) (x4 : Int32) (x5 : Int32) (x6 : Int32) (σ : St) (h : ((x3 ≤ x6 → VM g (d + 1) M_X5_odds (qL F) 72 [(0, vR 23), (1, vI x1), (2, vI x2), (3, vI x3), (4, vI x4), (5, vI x5), (6, vI 0), (7, vI 0)] [] σ) ∧ (¬ x3 ≤ x6 → VM g (d + 1) M_X5_odds (qL F) 45 [(0, vR 23), (1, vI x1), (2, vI x2), (3, vI x3), (4, vI x4), (5, vI (x5 * (σ 23 5))), (6, vI (x6 + 1))] [] σ))) : VM g (d + 1) M_X5_odds (qL F) 45 [(0, vR 23), (1, vI x1), (2, vI x2), (3, vI x3), (4, vI x4), (5, vI x5), (6, vI x6)] [] σ := by
  refine VE_iload 6 dX5_odds_45 (k := ?_)
  refine VE_iload_n 3 dX5_odds_47 (k := ?_)
  refine VE_icmp_ge 66 dX5_odds_48 (fun c1 => ?_) (fun c1 => ?_)
  · refine VE_iconst 0 dX5_odds_66 (k := ?_)
    refine VE_istore (ls' := [(6, vI 0), (0, vR 23), (1, vI x1), (2, vI x2), (3, vI x3), (4, vI x4), (5, vI x5)]) dX5_odds_67 ?_
    refine VE_iconst 0 dX5_odds_69 (k := ?_)
    refine VE_istore (ls' := [(7, vI 0), (6, vI 0), (0, vR 23), (1, vI x1), (2, vI x2), (3, vI x3), (4, vI x4), (5, vI x5)]) dX5_odds_70 ?_
    exact VE_sub [2, 3, 4, 5, 6, 7, 1, 0] rfl (h.1 c1)
  · refine VE_iload 5 dX5_odds_51 (k := ?_)
    refine VE_aload_n 0 dX5_odds_53 (k := ?_)
    refine VE_getI dX5_odds_54 fl_X5_59 ?_
    refine VE_imul dX5_odds_57 ?_
    refine VE_istore (ls' := [(5, vI (x5 * (σ 23 5))), (0, vR 23), (1, vI x1), (2, vI x2), (3, vI x3), (4, vI x4), (6, vI x6)]) dX5_odds_58 ?_
    refine VE_iinc 6 (x6 + 1) (ls' := [(6, vI (x6 + 1)), (5, vI (x5 * (σ 23 5))), (0, vR 23), (1, vI x1), (2, vI x2), (3, vI x3), (4, vI x4)]) dX5_odds_60 ?_
    refine VE_goto 45 dX5_odds_63 ?_
    exact VE_sub [2, 3, 4, 5, 6, 1, 0] rfl (h.2 c1)
set_option maxRecDepth 20000 in
theorem S_X5_odds_72 {g : GG} {d : Nat} {F : Int64 → St → Prop} (x1 : Int32) (x2 : Int32) (x3 : Int32) (x4 : Int32) (x5 : Int32) (x6 : Int32) (x7 : Int32) (σ : St) (h : ((x5 ≤ x7 → (ME g d M_X5_inLeastTerms [vL x6.toInt64, vL x5.toInt64, vI x4] σ (qL (fun r2 σ3 => F r2 σ3)))) ∧ (¬ x5 ≤ x7 → (ME g d M_X5_layRow [vR 23, vI x7, vI x3] σ (qV (fun σ6 => (ME g d M_X5_go [vR 23] σ6 (qI (fun r8 σ9 => ((¬ r8 = (-9) → VM g (d + 1) M_X5_odds (qL F) 72 [(0, vR 23), (1, vI x1), (2, vI x2), (3, vI x3), (4, vI x4), (5, vI x5), (6, vI (x6 + 0)), (7, vI (x7 + 1))] [] σ9) ∧ (r8 = (-9) → (vp_in x1 5 ∧ ((¬ (σ9 31 x1.toNatClampNeg) = x2 → VM g (d + 1) M_X5_odds (qL F) 72 [(0, vR 23), (1, vI x1), (2, vI x2), (3, vI x3), (4, vI x4), (5, vI x5), (6, vI (x6 + 0)), (7, vI (x7 + 1))] [] σ9) ∧ ((σ9 31 x1.toNatClampNeg) = x2 → VM g (d + 1) M_X5_odds (qL F) 72 [(0, vR 23), (1, vI x1), (2, vI x2), (3, vI x3), (4, vI x4), (5, vI x5), (6, vI (x6 + 1)), (7, vI (x7 + 1))] [] σ9)))))))))))))) : VM g (d + 1) M_X5_odds (qL F) 72 [(0, vR 23), (1, vI x1), (2, vI x2), (3, vI x3), (4, vI x4), (5, vI x5), (6, vI x6), (7, vI x7)] [] σ := by
  refine VE_iload 7 dX5_odds_72 (k := ?_)
  refine VE_iload 5 dX5_odds_74 (k := ?_)
  refine VE_icmp_ge 121 dX5_odds_76 (fun c1 => ?_) (fun c1 => ?_)
  · refine VE_iload 6 dX5_odds_121 (k := ?_)
    refine VE_i2l dX5_odds_123 ?_
    refine VE_iload 5 dX5_odds_124 (k := ?_)
    refine VE_i2l dX5_odds_126 ?_
    refine VE_iload 4 dX5_odds_127 (k := ?_)
    refine VE_cSl [vL x6.toInt64, vL x5.toInt64, vI x4] dX5_odds_129 ml_X5_174 (h.1 c1) (fun r2 σ3 h4 => ?_) (rok_D d)
    exact VM_lret dX5_odds_132 h4
  · refine VE_aload_n 0 dX5_odds_79 (k := ?_)
    refine VE_iload 7 dX5_odds_80 (k := ?_)
    refine VE_iload_n 3 dX5_odds_82 (k := ?_)
    refine VE_cVv [vI x7, vI x3] dX5_odds_83 ml_X5_156 (h.2 c1) (fun σ6 h7 => ?_) (rok_D d)
    refine VE_iload 6 dX5_odds_86 (k := ?_)
    refine VE_aload_n 0 dX5_odds_88 (k := ?_)
    refine VE_cVi [] dX5_odds_89 ml_X5_131 h7 (fun r8 σ9 h10 => ?_) (rok_D d)
    refine VE_bipush (-9) dX5_odds_92 (k := ?_)
    refine VE_icmp_ne 111 dX5_odds_94 (fun c11 => ?_) (fun c11 => ?_)
    · refine VE_iconst 0 dX5_odds_111 (k := ?_)
      refine VE_iadd dX5_odds_112 ?_
      refine VE_istore (ls' := [(6, vI (x6 + 0)), (0, vR 23), (1, vI x1), (2, vI x2), (3, vI x3), (4, vI x4), (5, vI x5), (7, vI x7)]) dX5_odds_113 ?_
      refine VE_iinc 7 (x7 + 1) (ls' := [(7, vI (x7 + 1)), (6, vI (x6 + 0)), (0, vR 23), (1, vI x1), (2, vI x2), (3, vI x3), (4, vI x4), (5, vI x5)]) dX5_odds_115 ?_
      refine VE_goto 72 dX5_odds_118 ?_
      exact VE_sub [2, 3, 4, 5, 6, 7, 1, 0] rfl (h10.1 c11)
    · refine VE_aload_n 0 dX5_odds_97 (k := ?_)
      refine VE_getR 31 dX5_odds_98 fl_X5_31 ?_
      refine VE_iload_n 1 dX5_odds_101 (k := ?_)
      refine VE_iald dX5_odds_102 (h10.2 c11).1 ?_
      refine VE_iload_n 2 dX5_odds_103 (k := ?_)
      refine VE_icmp_ne 111 dX5_odds_104 (fun c12 => ?_) (fun c12 => ?_)
      · refine VE_iconst 0 dX5_odds_111 (k := ?_)
        refine VE_iadd dX5_odds_112 ?_
        refine VE_istore (ls' := [(6, vI (x6 + 0)), (0, vR 23), (1, vI x1), (2, vI x2), (3, vI x3), (4, vI x4), (5, vI x5), (7, vI x7)]) dX5_odds_113 ?_
        refine VE_iinc 7 (x7 + 1) (ls' := [(7, vI (x7 + 1)), (6, vI (x6 + 0)), (0, vR 23), (1, vI x1), (2, vI x2), (3, vI x3), (4, vI x4), (5, vI x5)]) dX5_odds_115 ?_
        refine VE_goto 72 dX5_odds_118 ?_
        exact VE_sub [2, 3, 4, 5, 6, 7, 1, 0] rfl ((h10.2 c11).2.1 c12)
      · refine VE_iconst 1 dX5_odds_107 (k := ?_)
        refine VE_goto 112 dX5_odds_108 ?_
        refine VE_iadd dX5_odds_112 ?_
        refine VE_istore (ls' := [(6, vI (x6 + 1)), (0, vR 23), (1, vI x1), (2, vI x2), (3, vI x3), (4, vI x4), (5, vI x5), (7, vI x7)]) dX5_odds_113 ?_
        refine VE_iinc 7 (x7 + 1) (ls' := [(7, vI (x7 + 1)), (6, vI (x6 + 1)), (0, vR 23), (1, vI x1), (2, vI x2), (3, vI x3), (4, vI x4), (5, vI x5)]) dX5_odds_115 ?_
        refine VE_goto 72 dX5_odds_118 ?_
        exact VE_sub [2, 3, 4, 5, 6, 7, 1, 0] rfl ((h10.2 c11).2.2 c12)
theorem dX5_sheet_0 : decode cX5_sheet 0 = .ok (.aload_n 0, 1) := by decide +kernel
theorem dX5_sheet_1 : decode cX5_sheet 1 = .ok (.iconst 0, 1) := by decide +kernel
theorem dX5_sheet_2 : decode cX5_sheet 2 = .ok (.putfield 49, 3) := by decide +kernel
theorem dX5_sheet_5 : decode cX5_sheet 5 = .ok (.iload_n 1, 1) := by decide +kernel
theorem dX5_sheet_6 : decode cX5_sheet 6 = .ok (.invokestatic 65, 3) := by decide +kernel
theorem dX5_sheet_9 : decode cX5_sheet 9 = .ok (.ifCond .ne 5, 3) := by decide +kernel
theorem dX5_sheet_12 : decode cX5_sheet 12 = .ok (.iconst (-1), 1) := by decide +kernel
theorem dX5_sheet_13 : decode cX5_sheet 13 = .ok (.ireturn, 1) := by decide +kernel
theorem dX5_sheet_14 : decode cX5_sheet 14 = .ok (.iload_n 2, 1) := by decide +kernel
theorem dX5_sheet_15 : decode cX5_sheet 15 = .ok (.invokestatic 69, 3) := by decide +kernel
theorem dX5_sheet_18 : decode cX5_sheet 18 = .ok (.ifCond .eq 9, 3) := by decide +kernel
theorem dX5_sheet_21 : decode cX5_sheet 21 = .ok (.iload_n 3, 1) := by decide +kernel
theorem dX5_sheet_22 : decode cX5_sheet 22 = .ok (.bipush 60, 2) := by decide +kernel
theorem dX5_sheet_24 : decode cX5_sheet 24 = .ok (.if_icmp .le 6, 3) := by decide +kernel
theorem dX5_sheet_27 : decode cX5_sheet 27 = .ok (.bipush (-2), 2) := by decide +kernel
theorem dX5_sheet_29 : decode cX5_sheet 29 = .ok (.ireturn, 1) := by decide +kernel
theorem dX5_sheet_30 : decode cX5_sheet 30 = .ok (.iload_n 3, 1) := by decide +kernel
theorem dX5_sheet_31 : decode cX5_sheet 31 = .ok (.ifCond .ge 9, 3) := by decide +kernel
theorem dX5_sheet_34 : decode cX5_sheet 34 = .ok (.aload_n 0, 1) := by decide +kernel
theorem dX5_sheet_35 : decode cX5_sheet 35 = .ok (.iconst 4, 1) := by decide +kernel
theorem dX5_sheet_36 : decode cX5_sheet 36 = .ok (.invokevirtual 76, 3) := by decide +kernel
theorem dX5_sheet_39 : decode cX5_sheet 39 = .ok (.ireturn, 1) := by decide +kernel
theorem dX5_sheet_40 : decode cX5_sheet 40 = .ok (.aload_n 0, 1) := by decide +kernel
theorem dX5_sheet_41 : decode cX5_sheet 41 = .ok (.getfield 9, 3) := by decide +kernel
theorem dX5_sheet_44 : decode cX5_sheet 44 = .ok (.iload_n 1, 1) := by decide +kernel
theorem dX5_sheet_45 : decode cX5_sheet 45 = .ok (.iload_n 2, 1) := by decide +kernel
theorem dX5_sheet_46 : decode cX5_sheet 46 = .ok (.iastore, 1) := by decide +kernel
theorem dX5_sheet_47 : decode cX5_sheet 47 = .ok (.aload_n 0, 1) := by decide +kernel
theorem dX5_sheet_48 : decode cX5_sheet 48 = .ok (.getfield 13, 3) := by decide +kernel
theorem dX5_sheet_51 : decode cX5_sheet 51 = .ok (.iload_n 1, 1) := by decide +kernel
theorem dX5_sheet_52 : decode cX5_sheet 52 = .ok (.iload_n 3, 1) := by decide +kernel
theorem dX5_sheet_53 : decode cX5_sheet 53 = .ok (.iastore, 1) := by decide +kernel
theorem dX5_sheet_54 : decode cX5_sheet 54 = .ok (.iconst 0, 1) := by decide +kernel
theorem dX5_sheet_55 : decode cX5_sheet 55 = .ok (.istore 4, 2) := by decide +kernel
theorem dX5_sheet_57 : decode cX5_sheet 57 = .ok (.iload 4, 2) := by decide +kernel
theorem dX5_sheet_59 : decode cX5_sheet 59 = .ok (.bipush 60, 2) := by decide +kernel
theorem dX5_sheet_61 : decode cX5_sheet 61 = .ok (.if_icmp .ge 22, 3) := by decide +kernel
theorem dX5_sheet_64 : decode cX5_sheet 64 = .ok (.aload_n 0, 1) := by decide +kernel
theorem dX5_sheet_65 : decode cX5_sheet 65 = .ok (.getfield 16, 3) := by decide +kernel
theorem dX5_sheet_68 : decode cX5_sheet 68 = .ok (.bipush 60, 2) := by decide +kernel
theorem dX5_sheet_70 : decode cX5_sheet 70 = .ok (.iload_n 1, 1) := by decide +kernel
theorem dX5_sheet_71 : decode cX5_sheet 71 = .ok (.imul, 1) := by decide +kernel
theorem dX5_sheet_72 : decode cX5_sheet 72 = .ok (.iload 4, 2) := by decide +kernel
theorem dX5_sheet_74 : decode cX5_sheet 74 = .ok (.iadd, 1) := by decide +kernel
theorem dX5_sheet_75 : decode cX5_sheet 75 = .ok (.iconst 0, 1) := by decide +kernel
theorem dX5_sheet_76 : decode cX5_sheet 76 = .ok (.iastore, 1) := by decide +kernel
theorem dX5_sheet_77 : decode cX5_sheet 77 = .ok (.iinc 4 1, 3) := by decide +kernel
theorem dX5_sheet_80 : decode cX5_sheet 80 = .ok (.goto (-23), 3) := by decide +kernel
theorem dX5_sheet_83 : decode cX5_sheet 83 = .ok (.iconst 1, 1) := by decide +kernel
theorem dX5_sheet_84 : decode cX5_sheet 84 = .ok (.ireturn, 1) := by decide +kernel
set_option maxRecDepth 20000 in
theorem S_X5_sheet_0 {g : GG} {d : Nat} {F : Int32 → St → Prop} (a1 : Int32) (a2 : Int32) (a3 : Int32) (σ : St) (h : (ME g d M_X5_isSheet [vI a1] (sU σ 23 0 0) (qI (fun r1 σ2 => ((¬ r1 = 0 → (ME g d M_X5_isSort [vI a2] σ2 (qI (fun r5 σ6 => ((r5 = 0 → F (-2) σ6) ∧ (¬ r5 = 0 → ((a3 ≤ 60 → ((0 ≤ a3 → (vp_in a1 4 ∧ VM g (d + 1) M_X5_sheet (qI F) 57 [(0, vR 23), (1, vI a1), (2, vI a2), (3, vI a3), (4, vI 0)] [] (sU (sU σ6 24 a1.toNatClampNeg a2) 25 a1.toNatClampNeg a3))) ∧ (¬ 0 ≤ a3 → (ME g d M_X5_fails [vR 23, vI 4] σ6 (qI (fun r11 σ12 => F r11 σ12)))))) ∧ (¬ a3 ≤ 60 → F (-2) σ6)))))))) ∧ (r1 = 0 → F (-1) σ2)))))) : VM g (d + 1) M_X5_sheet (qI F) 0 [(0, vR 23), (1, vI a1), (2, vI a2), (3, vI a3)] [] σ := by
  refine VE_aload_n 0 dX5_sheet_0 (k := ?_)
  refine VE_iconst 0 dX5_sheet_1 (k := ?_)
  refine VE_put dX5_sheet_2 fl_X5_49 ?_
  refine VE_iload_n 1 dX5_sheet_5 (k := ?_)
  refine VE_cSi [vI a1] dX5_sheet_6 ml_X5_65 h (fun r1 σ2 h3 => ?_) (rok_D d)
  refine VE_if_ne 14 dX5_sheet_9 (fun c4 => ?_) (fun c4 => ?_)
  · refine VE_iload_n 2 dX5_sheet_14 (k := ?_)
    refine VE_cSi [vI a2] dX5_sheet_15 ml_X5_69 (h3.1 c4) (fun r5 σ6 h7 => ?_) (rok_D d)
    refine VE_if_eq 27 dX5_sheet_18 (fun c8 => ?_) (fun c8 => ?_)
    · refine VE_bipush (-2) dX5_sheet_27 (k := ?_)
      exact VM_iret dX5_sheet_29 (h7.1 c8)
    · refine VE_iload_n 3 dX5_sheet_21 (k := ?_)
      refine VE_bipush 60 dX5_sheet_22 (k := ?_)
      refine VE_icmp_le 30 dX5_sheet_24 (fun c9 => ?_) (fun c9 => ?_)
      · refine VE_iload_n 3 dX5_sheet_30 (k := ?_)
        refine VE_if_ge 40 dX5_sheet_31 (fun c10 => ?_) (fun c10 => ?_)
        · refine VE_aload_n 0 dX5_sheet_40 (k := ?_)
          refine VE_getR 24 dX5_sheet_41 fl_X5_9 ?_
          refine VE_iload_n 1 dX5_sheet_44 (k := ?_)
          refine VE_iload_n 2 dX5_sheet_45 (k := ?_)
          refine VE_iast dX5_sheet_46 (((h7.2 c8).1 c9).1 c10).1 ?_
          refine VE_aload_n 0 dX5_sheet_47 (k := ?_)
          refine VE_getR 25 dX5_sheet_48 fl_X5_13 ?_
          refine VE_iload_n 1 dX5_sheet_51 (k := ?_)
          refine VE_iload_n 3 dX5_sheet_52 (k := ?_)
          refine VE_iast dX5_sheet_53 (((h7.2 c8).1 c9).1 c10).1 ?_
          refine VE_iconst 0 dX5_sheet_54 (k := ?_)
          refine VE_istore (ls' := [(4, vI 0), (0, vR 23), (1, vI a1), (2, vI a2), (3, vI a3)]) dX5_sheet_55 ?_
          exact VE_sub [1, 2, 3, 4, 0] rfl (((h7.2 c8).1 c9).1 c10).2
        · refine VE_aload_n 0 dX5_sheet_34 (k := ?_)
          refine VE_iconst 4 dX5_sheet_35 (k := ?_)
          refine VE_cVi [vI 4] dX5_sheet_36 ml_X5_76 (((h7.2 c8).1 c9).2 c10) (fun r11 σ12 h13 => ?_) (rok_D d)
          exact VM_iret dX5_sheet_39 h13
      · refine VE_bipush (-2) dX5_sheet_27 (k := ?_)
        exact VM_iret dX5_sheet_29 ((h7.2 c8).2 c9)
  · refine VE_iconst (-1) dX5_sheet_12 (k := ?_)
    exact VM_iret dX5_sheet_13 (h3.2 c4)
set_option maxRecDepth 20000 in
theorem S_X5_sheet_57 {g : GG} {d : Nat} {F : Int32 → St → Prop} (x1 : Int32) (x2 : Int32) (x3 : Int32) (x4 : Int32) (σ : St) (h : ((60 ≤ x4 → F 1 σ) ∧ (¬ 60 ≤ x4 → (vp_in ((60 * x1) + x4) 240 ∧ VM g (d + 1) M_X5_sheet (qI F) 57 [(0, vR 23), (1, vI x1), (2, vI x2), (3, vI x3), (4, vI (x4 + 1))] [] (sU σ 26 (((60 * x1) + x4).toNatClampNeg) 0))))) : VM g (d + 1) M_X5_sheet (qI F) 57 [(0, vR 23), (1, vI x1), (2, vI x2), (3, vI x3), (4, vI x4)] [] σ := by
  refine VE_iload 4 dX5_sheet_57 (k := ?_)
  refine VE_bipush 60 dX5_sheet_59 (k := ?_)
  refine VE_icmp_ge 83 dX5_sheet_61 (fun c1 => ?_) (fun c1 => ?_)
  · refine VE_iconst 1 dX5_sheet_83 (k := ?_)
    exact VM_iret dX5_sheet_84 (h.1 c1)
  · refine VE_aload_n 0 dX5_sheet_64 (k := ?_)
    refine VE_getR 26 dX5_sheet_65 fl_X5_16 ?_
    refine VE_bipush 60 dX5_sheet_68 (k := ?_)
    refine VE_iload_n 1 dX5_sheet_70 (k := ?_)
    refine VE_imul dX5_sheet_71 ?_
    refine VE_iload 4 dX5_sheet_72 (k := ?_)
    refine VE_iadd dX5_sheet_74 ?_
    refine VE_iconst 0 dX5_sheet_75 (k := ?_)
    refine VE_iast dX5_sheet_76 (h.2 c1).1 ?_
    refine VE_iinc 4 (x4 + 1) (ls' := [(4, vI (x4 + 1)), (0, vR 23), (1, vI x1), (2, vI x2), (3, vI x3)]) dX5_sheet_77 ?_
    refine VE_goto 57 dX5_sheet_80 ?_
    exact VE_sub [1, 2, 3, 4, 0] rfl (h.2 c1).2
theorem dX5_lose_0 : decode cX5_lose 0 = .ok (.iload_n 1, 1) := by decide +kernel
theorem dX5_lose_1 : decode cX5_lose 1 = .ok (.invokestatic 65, 3) := by decide +kernel
theorem dX5_lose_4 : decode cX5_lose 4 = .ok (.ifCond .ne 5, 3) := by decide +kernel
theorem dX5_lose_7 : decode cX5_lose 7 = .ok (.iconst (-1), 1) := by decide +kernel
theorem dX5_lose_8 : decode cX5_lose 8 = .ok (.ireturn, 1) := by decide +kernel
theorem dX5_lose_9 : decode cX5_lose 9 = .ok (.aload_n 0, 1) := by decide +kernel
theorem dX5_lose_10 : decode cX5_lose 10 = .ok (.getfield 9, 3) := by decide +kernel
theorem dX5_lose_13 : decode cX5_lose 13 = .ok (.iload_n 1, 1) := by decide +kernel
theorem dX5_lose_14 : decode cX5_lose 14 = .ok (.iaload, 1) := by decide +kernel
theorem dX5_lose_15 : decode cX5_lose 15 = .ok (.bipush (-9), 2) := by decide +kernel
theorem dX5_lose_17 : decode cX5_lose 17 = .ok (.if_icmp .ne 7, 3) := by decide +kernel
theorem dX5_lose_20 : decode cX5_lose 20 = .ok (.iconst 0, 1) := by decide +kernel
theorem dX5_lose_21 : decode cX5_lose 21 = .ok (.goto 4, 3) := by decide +kernel
theorem dX5_lose_24 : decode cX5_lose 24 = .ok (.iconst 1, 1) := by decide +kernel
theorem dX5_lose_25 : decode cX5_lose 25 = .ok (.istore_n 2, 1) := by decide +kernel
theorem dX5_lose_26 : decode cX5_lose 26 = .ok (.aload_n 0, 1) := by decide +kernel
theorem dX5_lose_27 : decode cX5_lose 27 = .ok (.getfield 9, 3) := by decide +kernel
theorem dX5_lose_30 : decode cX5_lose 30 = .ok (.iload_n 1, 1) := by decide +kernel
theorem dX5_lose_31 : decode cX5_lose 31 = .ok (.bipush (-9), 2) := by decide +kernel
theorem dX5_lose_33 : decode cX5_lose 33 = .ok (.iastore, 1) := by decide +kernel
theorem dX5_lose_34 : decode cX5_lose 34 = .ok (.iload_n 2, 1) := by decide +kernel
theorem dX5_lose_35 : decode cX5_lose 35 = .ok (.ireturn, 1) := by decide +kernel
set_option maxRecDepth 20000 in
theorem S_X5_lose_0 {g : GG} {d : Nat} {F : Int32 → St → Prop} (a1 : Int32) (σ : St) (h : (ME g d M_X5_isSheet [vI a1] σ (qI (fun r1 σ2 => ((¬ r1 = 0 → (vp_in a1 4 ∧ ((¬ (σ2 24 a1.toNatClampNeg) = (-9) → F 1 (sU σ2 24 a1.toNatClampNeg (-9))) ∧ ((σ2 24 a1.toNatClampNeg) = (-9) → F 0 (sU σ2 24 a1.toNatClampNeg (-9)))))) ∧ (r1 = 0 → F (-1) σ2)))))) : VM g (d + 1) M_X5_lose (qI F) 0 [(0, vR 23), (1, vI a1)] [] σ := by
  refine VE_iload_n 1 dX5_lose_0 (k := ?_)
  refine VE_cSi [vI a1] dX5_lose_1 ml_X5_65 h (fun r1 σ2 h3 => ?_) (rok_D d)
  refine VE_if_ne 9 dX5_lose_4 (fun c4 => ?_) (fun c4 => ?_)
  · refine VE_aload_n 0 dX5_lose_9 (k := ?_)
    refine VE_getR 24 dX5_lose_10 fl_X5_9 ?_
    refine VE_iload_n 1 dX5_lose_13 (k := ?_)
    refine VE_iald dX5_lose_14 (h3.1 c4).1 ?_
    refine VE_bipush (-9) dX5_lose_15 (k := ?_)
    refine VE_icmp_ne 24 dX5_lose_17 (fun c5 => ?_) (fun c5 => ?_)
    · refine VE_iconst 1 dX5_lose_24 (k := ?_)
      refine VE_istore_n (ls' := [(2, vI 1), (0, vR 23), (1, vI a1)]) dX5_lose_25 ?_
      refine VE_aload_n 1 dX5_lose_26 (k := ?_)
      refine VE_getR 24 dX5_lose_27 fl_X5_9 ?_
      refine VE_iload_n 2 dX5_lose_30 (k := ?_)
      refine VE_bipush (-9) dX5_lose_31 (k := ?_)
      refine VE_iast dX5_lose_33 (h3.1 c4).1 ?_
      refine VE_iload_n 0 dX5_lose_34 (k := ?_)
      exact VM_iret dX5_lose_35 ((h3.1 c4).2.1 c5)
    · refine VE_iconst 0 dX5_lose_20 (k := ?_)
      refine VE_goto 25 dX5_lose_21 ?_
      refine VE_istore_n (ls' := [(2, vI 0), (0, vR 23), (1, vI a1)]) dX5_lose_25 ?_
      refine VE_aload_n 1 dX5_lose_26 (k := ?_)
      refine VE_getR 24 dX5_lose_27 fl_X5_9 ?_
      refine VE_iload_n 2 dX5_lose_30 (k := ?_)
      refine VE_bipush (-9) dX5_lose_31 (k := ?_)
      refine VE_iast dX5_lose_33 (h3.1 c4).1 ?_
      refine VE_iload_n 0 dX5_lose_34 (k := ?_)
      exact VM_iret dX5_lose_35 ((h3.1 c4).2.2 c5)
  · refine VE_iconst (-1) dX5_lose_7 (k := ?_)
    exact VM_iret dX5_lose_8 (h3.2 c4)
theorem dX5_put_0 : decode cX5_put 0 = .ok (.aload_n 0, 1) := by decide +kernel
theorem dX5_put_1 : decode cX5_put 1 = .ok (.iconst 0, 1) := by decide +kernel
theorem dX5_put_2 : decode cX5_put 2 = .ok (.putfield 49, 3) := by decide +kernel
theorem dX5_put_5 : decode cX5_put 5 = .ok (.iload_n 1, 1) := by decide +kernel
theorem dX5_put_6 : decode cX5_put 6 = .ok (.invokestatic 65, 3) := by decide +kernel
theorem dX5_put_9 : decode cX5_put 9 = .ok (.ifCond .ne 5, 3) := by decide +kernel
theorem dX5_put_12 : decode cX5_put 12 = .ok (.iconst (-1), 1) := by decide +kernel
theorem dX5_put_13 : decode cX5_put 13 = .ok (.ireturn, 1) := by decide +kernel
theorem dX5_put_14 : decode cX5_put 14 = .ok (.aload_n 0, 1) := by decide +kernel
theorem dX5_put_15 : decode cX5_put 15 = .ok (.getfield 9, 3) := by decide +kernel
theorem dX5_put_18 : decode cX5_put 18 = .ok (.iload_n 1, 1) := by decide +kernel
theorem dX5_put_19 : decode cX5_put 19 = .ok (.iaload, 1) := by decide +kernel
theorem dX5_put_20 : decode cX5_put 20 = .ok (.bipush (-9), 2) := by decide +kernel
theorem dX5_put_22 : decode cX5_put 22 = .ok (.if_icmp .ne 9, 3) := by decide +kernel
theorem dX5_put_25 : decode cX5_put 25 = .ok (.aload_n 0, 1) := by decide +kernel
theorem dX5_put_26 : decode cX5_put 26 = .ok (.iconst 1, 1) := by decide +kernel
theorem dX5_put_27 : decode cX5_put 27 = .ok (.invokevirtual 76, 3) := by decide +kernel
theorem dX5_put_30 : decode cX5_put 30 = .ok (.ireturn, 1) := by decide +kernel
theorem dX5_put_31 : decode cX5_put 31 = .ok (.iload_n 2, 1) := by decide +kernel
theorem dX5_put_32 : decode cX5_put 32 = .ok (.iconst 0, 1) := by decide +kernel
theorem dX5_put_33 : decode cX5_put 33 = .ok (.aload_n 0, 1) := by decide +kernel
theorem dX5_put_34 : decode cX5_put 34 = .ok (.getfield 13, 3) := by decide +kernel
theorem dX5_put_37 : decode cX5_put 37 = .ok (.iload_n 1, 1) := by decide +kernel
theorem dX5_put_38 : decode cX5_put 38 = .ok (.iaload, 1) := by decide +kernel
theorem dX5_put_39 : decode cX5_put 39 = .ok (.iconst 1, 1) := by decide +kernel
theorem dX5_put_40 : decode cX5_put 40 = .ok (.isub, 1) := by decide +kernel
theorem dX5_put_41 : decode cX5_put 41 = .ok (.invokestatic 55, 3) := by decide +kernel
theorem dX5_put_44 : decode cX5_put 44 = .ok (.ifCond .ne 9, 3) := by decide +kernel
theorem dX5_put_47 : decode cX5_put 47 = .ok (.aload_n 0, 1) := by decide +kernel
theorem dX5_put_48 : decode cX5_put 48 = .ok (.iconst 3, 1) := by decide +kernel
theorem dX5_put_49 : decode cX5_put 49 = .ok (.invokevirtual 76, 3) := by decide +kernel
theorem dX5_put_52 : decode cX5_put 52 = .ok (.ireturn, 1) := by decide +kernel
theorem dX5_put_53 : decode cX5_put 53 = .ok (.aload_n 0, 1) := by decide +kernel
theorem dX5_put_54 : decode cX5_put 54 = .ok (.getfield 16, 3) := by decide +kernel
theorem dX5_put_57 : decode cX5_put 57 = .ok (.bipush 60, 2) := by decide +kernel
theorem dX5_put_59 : decode cX5_put 59 = .ok (.iload_n 1, 1) := by decide +kernel
theorem dX5_put_60 : decode cX5_put 60 = .ok (.imul, 1) := by decide +kernel
theorem dX5_put_61 : decode cX5_put 61 = .ok (.iload_n 2, 1) := by decide +kernel
theorem dX5_put_62 : decode cX5_put 62 = .ok (.iadd, 1) := by decide +kernel
theorem dX5_put_63 : decode cX5_put 63 = .ok (.aload_n 0, 1) := by decide +kernel
theorem dX5_put_64 : decode cX5_put 64 = .ok (.getfield 9, 3) := by decide +kernel
theorem dX5_put_67 : decode cX5_put 67 = .ok (.iload_n 1, 1) := by decide +kernel
theorem dX5_put_68 : decode cX5_put 68 = .ok (.iaload, 1) := by decide +kernel
theorem dX5_put_69 : decode cX5_put 69 = .ok (.ifCond .ne 8, 3) := by decide +kernel
theorem dX5_put_72 : decode cX5_put 72 = .ok (.iload_n 3, 1) := by decide +kernel
theorem dX5_put_73 : decode cX5_put 73 = .ok (.i2b, 1) := by decide +kernel
theorem dX5_put_74 : decode cX5_put 74 = .ok (.goto 19, 3) := by decide +kernel
theorem dX5_put_77 : decode cX5_put 77 = .ok (.aload_n 0, 1) := by decide +kernel
theorem dX5_put_78 : decode cX5_put 78 = .ok (.getfield 9, 3) := by decide +kernel
theorem dX5_put_81 : decode cX5_put 81 = .ok (.iload_n 1, 1) := by decide +kernel
theorem dX5_put_82 : decode cX5_put 82 = .ok (.iaload, 1) := by decide +kernel
theorem dX5_put_83 : decode cX5_put 83 = .ok (.iconst 1, 1) := by decide +kernel
theorem dX5_put_84 : decode cX5_put 84 = .ok (.if_icmp .ne 8, 3) := by decide +kernel
theorem dX5_put_87 : decode cX5_put 87 = .ok (.iload_n 3, 1) := by decide +kernel
theorem dX5_put_88 : decode cX5_put 88 = .ok (.i2s, 1) := by decide +kernel
theorem dX5_put_89 : decode cX5_put 89 = .ok (.goto 4, 3) := by decide +kernel
theorem dX5_put_92 : decode cX5_put 92 = .ok (.iload_n 3, 1) := by decide +kernel
theorem dX5_put_93 : decode cX5_put 93 = .ok (.iastore, 1) := by decide +kernel
theorem dX5_put_94 : decode cX5_put 94 = .ok (.iconst 1, 1) := by decide +kernel
theorem dX5_put_95 : decode cX5_put 95 = .ok (.ireturn, 1) := by decide +kernel
set_option maxRecDepth 20000 in
theorem S_X5_put_0 {g : GG} {d : Nat} {F : Int32 → St → Prop} (a1 : Int32) (a2 : Int32) (a3 : Int32) (σ : St) (h : (ME g d M_X5_isSheet [vI a1] (sU σ 23 0 0) (qI (fun r1 σ2 => ((¬ r1 = 0 → (vp_in a1 4 ∧ ((¬ (σ2 24 a1.toNatClampNeg) = (-9) → (ME g d M_X5_within [vI a2, vI 0, vI ((σ2 25 a1.toNatClampNeg) - 1)] σ2 (qI (fun r6 σ7 => ((¬ r6 = 0 → ((¬ (σ7 24 a1.toNatClampNeg) = 0 → ((¬ (σ7 24 a1.toNatClampNeg) = 1 → (vp_in ((60 * a1) + a2) 240 ∧ F 1 (sU σ7 26 (((60 * a1) + a2).toNatClampNeg) a3))) ∧ ((σ7 24 a1.toNatClampNeg) = 1 → (vp_in ((60 * a1) + a2) 240 ∧ F 1 (sU σ7 26 (((60 * a1) + a2).toNatClampNeg) a3.toInt16.toInt32))))) ∧ ((σ7 24 a1.toNatClampNeg) = 0 → (vp_in ((60 * a1) + a2) 240 ∧ F 1 (sU σ7 26 (((60 * a1) + a2).toNatClampNeg) a3.toInt8.toInt32))))) ∧ (r6 = 0 → (ME g d M_X5_fails [vR 23, vI 3] σ7 (qI (fun r12 σ13 => F r12 σ13))))))))) ∧ ((σ2 24 a1.toNatClampNeg) = (-9) → (ME g d M_X5_fails [vR 23, vI 1] σ2 (qI (fun r15 σ16 => F r15 σ16))))))) ∧ (r1 = 0 → F (-1) σ2)))))) : VM g (d + 1) M_X5_put (qI F) 0 [(0, vR 23), (1, vI a1), (2, vI a2), (3, vI a3)] [] σ := by
  refine VE_aload_n 0 dX5_put_0 (k := ?_)
  refine VE_iconst 0 dX5_put_1 (k := ?_)
  refine VE_put dX5_put_2 fl_X5_49 ?_
  refine VE_iload_n 1 dX5_put_5 (k := ?_)
  refine VE_cSi [vI a1] dX5_put_6 ml_X5_65 h (fun r1 σ2 h3 => ?_) (rok_D d)
  refine VE_if_ne 14 dX5_put_9 (fun c4 => ?_) (fun c4 => ?_)
  · refine VE_aload_n 0 dX5_put_14 (k := ?_)
    refine VE_getR 24 dX5_put_15 fl_X5_9 ?_
    refine VE_iload_n 1 dX5_put_18 (k := ?_)
    refine VE_iald dX5_put_19 (h3.1 c4).1 ?_
    refine VE_bipush (-9) dX5_put_20 (k := ?_)
    refine VE_icmp_ne 31 dX5_put_22 (fun c5 => ?_) (fun c5 => ?_)
    · refine VE_iload_n 2 dX5_put_31 (k := ?_)
      refine VE_iconst 0 dX5_put_32 (k := ?_)
      refine VE_aload_n 0 dX5_put_33 (k := ?_)
      refine VE_getR 25 dX5_put_34 fl_X5_13 ?_
      refine VE_iload_n 1 dX5_put_37 (k := ?_)
      refine VE_iald dX5_put_38 (h3.1 c4).1 ?_
      refine VE_iconst 1 dX5_put_39 (k := ?_)
      refine VE_isub dX5_put_40 ?_
      refine VE_cSi [vI a2, vI 0, vI ((σ2 25 a1.toNatClampNeg) - 1)] dX5_put_41 ml_X5_55 ((h3.1 c4).2.1 c5) (fun r6 σ7 h8 => ?_) (rok_D d)
      refine VE_if_ne 53 dX5_put_44 (fun c9 => ?_) (fun c9 => ?_)
      · refine VE_aload_n 0 dX5_put_53 (k := ?_)
        refine VE_getR 26 dX5_put_54 fl_X5_16 ?_
        refine VE_bipush 60 dX5_put_57 (k := ?_)
        refine VE_iload_n 1 dX5_put_59 (k := ?_)
        refine VE_imul dX5_put_60 ?_
        refine VE_iload_n 2 dX5_put_61 (k := ?_)
        refine VE_iadd dX5_put_62 ?_
        refine VE_aload_n 0 dX5_put_63 (k := ?_)
        refine VE_getR 24 dX5_put_64 fl_X5_9 ?_
        refine VE_iload_n 1 dX5_put_67 (k := ?_)
        refine VE_iald dX5_put_68 (h3.1 c4).1 ?_
        refine VE_if_ne 77 dX5_put_69 (fun c10 => ?_) (fun c10 => ?_)
        · refine VE_aload_n 0 dX5_put_77 (k := ?_)
          refine VE_getR 24 dX5_put_78 fl_X5_9 ?_
          refine VE_iload_n 1 dX5_put_81 (k := ?_)
          refine VE_iald dX5_put_82 (h3.1 c4).1 ?_
          refine VE_iconst 1 dX5_put_83 (k := ?_)
          refine VE_icmp_ne 92 dX5_put_84 (fun c11 => ?_) (fun c11 => ?_)
          · refine VE_iload_n 3 dX5_put_92 (k := ?_)
            refine VE_iast dX5_put_93 (((h8.1 c9).1 c10).1 c11).1 ?_
            refine VE_iconst 1 dX5_put_94 (k := ?_)
            exact VM_iret dX5_put_95 (((h8.1 c9).1 c10).1 c11).2
          · refine VE_iload_n 3 dX5_put_87 (k := ?_)
            refine VE_i2s dX5_put_88 ?_
            refine VE_goto 93 dX5_put_89 ?_
            refine VE_iast dX5_put_93 (((h8.1 c9).1 c10).2 c11).1 ?_
            refine VE_iconst 1 dX5_put_94 (k := ?_)
            exact VM_iret dX5_put_95 (((h8.1 c9).1 c10).2 c11).2
        · refine VE_iload_n 3 dX5_put_72 (k := ?_)
          refine VE_i2b dX5_put_73 ?_
          refine VE_goto 93 dX5_put_74 ?_
          refine VE_iast dX5_put_93 ((h8.1 c9).2 c10).1 ?_
          refine VE_iconst 1 dX5_put_94 (k := ?_)
          exact VM_iret dX5_put_95 ((h8.1 c9).2 c10).2
      · refine VE_aload_n 0 dX5_put_47 (k := ?_)
        refine VE_iconst 3 dX5_put_48 (k := ?_)
        refine VE_cVi [vI 3] dX5_put_49 ml_X5_76 (h8.2 c9) (fun r12 σ13 h14 => ?_) (rok_D d)
        exact VM_iret dX5_put_52 h14
    · refine VE_aload_n 0 dX5_put_25 (k := ?_)
      refine VE_iconst 1 dX5_put_26 (k := ?_)
      refine VE_cVi [vI 1] dX5_put_27 ml_X5_76 ((h3.1 c4).2.2 c5) (fun r15 σ16 h17 => ?_) (rok_D d)
      exact VM_iret dX5_put_30 h17
  · refine VE_iconst (-1) dX5_put_12 (k := ?_)
    exact VM_iret dX5_put_13 (h3.2 c4)
theorem dX5_cell_0 : decode cX5_cell 0 = .ok (.aload_n 0, 1) := by decide +kernel
theorem dX5_cell_1 : decode cX5_cell 1 = .ok (.iconst 0, 1) := by decide +kernel
theorem dX5_cell_2 : decode cX5_cell 2 = .ok (.putfield 49, 3) := by decide +kernel
theorem dX5_cell_5 : decode cX5_cell 5 = .ok (.iload_n 1, 1) := by decide +kernel
theorem dX5_cell_6 : decode cX5_cell 6 = .ok (.invokestatic 65, 3) := by decide +kernel
theorem dX5_cell_9 : decode cX5_cell 9 = .ok (.ifCond .eq 10, 3) := by decide +kernel
theorem dX5_cell_12 : decode cX5_cell 12 = .ok (.iload_n 3, 1) := by decide +kernel
theorem dX5_cell_13 : decode cX5_cell 13 = .ok (.invokestatic 69, 3) := by decide +kernel
theorem dX5_cell_16 : decode cX5_cell 16 = .ok (.ifCond .ne 7, 3) := by decide +kernel
theorem dX5_cell_19 : decode cX5_cell 19 = .ok (.ldc2_w 53, 3) := by decide +kernel
theorem dX5_cell_22 : decode cX5_cell 22 = .ok (.lreturn, 1) := by decide +kernel
theorem dX5_cell_23 : decode cX5_cell 23 = .ok (.aload_n 0, 1) := by decide +kernel
theorem dX5_cell_24 : decode cX5_cell 24 = .ok (.getfield 9, 3) := by decide +kernel
theorem dX5_cell_27 : decode cX5_cell 27 = .ok (.iload_n 1, 1) := by decide +kernel
theorem dX5_cell_28 : decode cX5_cell 28 = .ok (.iaload, 1) := by decide +kernel
theorem dX5_cell_29 : decode cX5_cell 29 = .ok (.bipush (-9), 2) := by decide +kernel
theorem dX5_cell_31 : decode cX5_cell 31 = .ok (.if_icmp .eq 19, 3) := by decide +kernel
theorem dX5_cell_34 : decode cX5_cell 34 = .ok (.aload_n 0, 1) := by decide +kernel
theorem dX5_cell_35 : decode cX5_cell 35 = .ok (.getfield 9, 3) := by decide +kernel
theorem dX5_cell_38 : decode cX5_cell 38 = .ok (.iload_n 1, 1) := by decide +kernel
theorem dX5_cell_39 : decode cX5_cell 39 = .ok (.iaload, 1) := by decide +kernel
theorem dX5_cell_40 : decode cX5_cell 40 = .ok (.iload_n 3, 1) := by decide +kernel
theorem dX5_cell_41 : decode cX5_cell 41 = .ok (.if_icmp .eq 9, 3) := by decide +kernel
theorem dX5_cell_44 : decode cX5_cell 44 = .ok (.aload_n 0, 1) := by decide +kernel
theorem dX5_cell_45 : decode cX5_cell 45 = .ok (.iconst 2, 1) := by decide +kernel
theorem dX5_cell_46 : decode cX5_cell 46 = .ok (.invokevirtual 178, 3) := by decide +kernel
theorem dX5_cell_49 : decode cX5_cell 49 = .ok (.lreturn, 1) := by decide +kernel
theorem dX5_cell_50 : decode cX5_cell 50 = .ok (.aload_n 0, 1) := by decide +kernel
theorem dX5_cell_51 : decode cX5_cell 51 = .ok (.getfield 9, 3) := by decide +kernel
theorem dX5_cell_54 : decode cX5_cell 54 = .ok (.iload_n 1, 1) := by decide +kernel
theorem dX5_cell_55 : decode cX5_cell 55 = .ok (.iaload, 1) := by decide +kernel
theorem dX5_cell_56 : decode cX5_cell 56 = .ok (.bipush (-9), 2) := by decide +kernel
theorem dX5_cell_58 : decode cX5_cell 58 = .ok (.if_icmp .ne 9, 3) := by decide +kernel
theorem dX5_cell_61 : decode cX5_cell 61 = .ok (.aload_n 0, 1) := by decide +kernel
theorem dX5_cell_62 : decode cX5_cell 62 = .ok (.iconst 1, 1) := by decide +kernel
theorem dX5_cell_63 : decode cX5_cell 63 = .ok (.invokevirtual 178, 3) := by decide +kernel
theorem dX5_cell_66 : decode cX5_cell 66 = .ok (.lreturn, 1) := by decide +kernel
theorem dX5_cell_67 : decode cX5_cell 67 = .ok (.iload_n 2, 1) := by decide +kernel
theorem dX5_cell_68 : decode cX5_cell 68 = .ok (.iconst 0, 1) := by decide +kernel
theorem dX5_cell_69 : decode cX5_cell 69 = .ok (.aload_n 0, 1) := by decide +kernel
theorem dX5_cell_70 : decode cX5_cell 70 = .ok (.getfield 13, 3) := by decide +kernel
theorem dX5_cell_73 : decode cX5_cell 73 = .ok (.iload_n 1, 1) := by decide +kernel
theorem dX5_cell_74 : decode cX5_cell 74 = .ok (.iaload, 1) := by decide +kernel
theorem dX5_cell_75 : decode cX5_cell 75 = .ok (.iconst 1, 1) := by decide +kernel
theorem dX5_cell_76 : decode cX5_cell 76 = .ok (.isub, 1) := by decide +kernel
theorem dX5_cell_77 : decode cX5_cell 77 = .ok (.invokestatic 55, 3) := by decide +kernel
theorem dX5_cell_80 : decode cX5_cell 80 = .ok (.ifCond .ne 9, 3) := by decide +kernel
theorem dX5_cell_83 : decode cX5_cell 83 = .ok (.aload_n 0, 1) := by decide +kernel
theorem dX5_cell_84 : decode cX5_cell 84 = .ok (.iconst 3, 1) := by decide +kernel
theorem dX5_cell_85 : decode cX5_cell 85 = .ok (.invokevirtual 178, 3) := by decide +kernel
theorem dX5_cell_88 : decode cX5_cell 88 = .ok (.lreturn, 1) := by decide +kernel
theorem dX5_cell_89 : decode cX5_cell 89 = .ok (.aload_n 0, 1) := by decide +kernel
theorem dX5_cell_90 : decode cX5_cell 90 = .ok (.getfield 16, 3) := by decide +kernel
theorem dX5_cell_93 : decode cX5_cell 93 = .ok (.bipush 60, 2) := by decide +kernel
theorem dX5_cell_95 : decode cX5_cell 95 = .ok (.iload_n 1, 1) := by decide +kernel
theorem dX5_cell_96 : decode cX5_cell 96 = .ok (.imul, 1) := by decide +kernel
theorem dX5_cell_97 : decode cX5_cell 97 = .ok (.iload_n 2, 1) := by decide +kernel
theorem dX5_cell_98 : decode cX5_cell 98 = .ok (.iadd, 1) := by decide +kernel
theorem dX5_cell_99 : decode cX5_cell 99 = .ok (.iaload, 1) := by decide +kernel
theorem dX5_cell_100 : decode cX5_cell 100 = .ok (.i2l, 1) := by decide +kernel
theorem dX5_cell_101 : decode cX5_cell 101 = .ok (.lreturn, 1) := by decide +kernel
set_option maxRecDepth 20000 in
theorem S_X5_cell_0 {g : GG} {d : Nat} {F : Int64 → St → Prop} (a1 : Int32) (a2 : Int32) (a3 : Int32) (σ : St) (h : (ME g d M_X5_isSheet [vI a1] (sU σ 23 0 0) (qI (fun r1 σ2 => ((r1 = 0 → F (-9223372036854775808) σ2) ∧ (¬ r1 = 0 → (ME g d M_X5_isSort [vI a3] σ2 (qI (fun r5 σ6 => ((¬ r5 = 0 → (vp_in a1 4 ∧ (((σ6 24 a1.toNatClampNeg) = (-9) → ((¬ (σ6 24 a1.toNatClampNeg) = (-9) → (ME g d M_X5_within [vI a2, vI 0, vI ((σ6 25 a1.toNatClampNeg) - 1)] σ6 (qI (fun r11 σ12 => ((¬ r11 = 0 → (vp_in ((60 * a1) + a2) 240 ∧ F ((σ12 26 (((60 * a1) + a2).toNatClampNeg)).toInt64) σ12)) ∧ (r11 = 0 → (ME g d M_X5_lost [vR 23, vI 3] σ12 (qL (fun r15 σ16 => F r15 σ16))))))))) ∧ ((σ6 24 a1.toNatClampNeg) = (-9) → (ME g d M_X5_lost [vR 23, vI 1] σ6 (qL (fun r18 σ19 => F r18 σ19)))))) ∧ (¬ (σ6 24 a1.toNatClampNeg) = (-9) → (((σ6 24 a1.toNatClampNeg) = a3 → ((¬ (σ6 24 a1.toNatClampNeg) = (-9) → (ME g d M_X5_within [vI a2, vI 0, vI ((σ6 25 a1.toNatClampNeg) - 1)] σ6 (qI (fun r23 σ24 => ((¬ r23 = 0 → (vp_in ((60 * a1) + a2) 240 ∧ F ((σ24 26 (((60 * a1) + a2).toNatClampNeg)).toInt64) σ24)) ∧ (r23 = 0 → (ME g d M_X5_lost [vR 23, vI 3] σ24 (qL (fun r27 σ28 => F r27 σ28))))))))) ∧ ((σ6 24 a1.toNatClampNeg) = (-9) → (ME g d M_X5_lost [vR 23, vI 1] σ6 (qL (fun r30 σ31 => F r30 σ31)))))) ∧ (¬ (σ6 24 a1.toNatClampNeg) = a3 → (ME g d M_X5_lost [vR 23, vI 2] σ6 (qL (fun r33 σ34 => F r33 σ34))))))))) ∧ (r5 = 0 → F (-9223372036854775808) σ6))))))))))) : VM g (d + 1) M_X5_cell (qL F) 0 [(0, vR 23), (1, vI a1), (2, vI a2), (3, vI a3)] [] σ := by
  refine VE_aload_n 0 dX5_cell_0 (k := ?_)
  refine VE_iconst 0 dX5_cell_1 (k := ?_)
  refine VE_put dX5_cell_2 fl_X5_49 ?_
  refine VE_iload_n 1 dX5_cell_5 (k := ?_)
  refine VE_cSi [vI a1] dX5_cell_6 ml_X5_65 h (fun r1 σ2 h3 => ?_) (rok_D d)
  refine VE_if_eq 19 dX5_cell_9 (fun c4 => ?_) (fun c4 => ?_)
  · refine VE_ldc2 (-9223372036854775808) 695 dX5_cell_19 ⟨by decide +kernel, rfl⟩ ?_
    exact VM_lret dX5_cell_22 (h3.1 c4)
  · refine VE_iload_n 3 dX5_cell_12 (k := ?_)
    refine VE_cSi [vI a3] dX5_cell_13 ml_X5_69 (h3.2 c4) (fun r5 σ6 h7 => ?_) (rok_D d)
    refine VE_if_ne 23 dX5_cell_16 (fun c8 => ?_) (fun c8 => ?_)
    · refine VE_aload_n 0 dX5_cell_23 (k := ?_)
      refine VE_getR 24 dX5_cell_24 fl_X5_9 ?_
      refine VE_iload_n 1 dX5_cell_27 (k := ?_)
      refine VE_iald dX5_cell_28 (h7.1 c8).1 ?_
      refine VE_bipush (-9) dX5_cell_29 (k := ?_)
      refine VE_icmp_eq 50 dX5_cell_31 (fun c9 => ?_) (fun c9 => ?_)
      · refine VE_aload_n 0 dX5_cell_50 (k := ?_)
        refine VE_getR 24 dX5_cell_51 fl_X5_9 ?_
        refine VE_iload_n 1 dX5_cell_54 (k := ?_)
        refine VE_iald dX5_cell_55 (h7.1 c8).1 ?_
        refine VE_bipush (-9) dX5_cell_56 (k := ?_)
        refine VE_icmp_ne 67 dX5_cell_58 (fun c10 => ?_) (fun c10 => ?_)
        · refine VE_iload_n 2 dX5_cell_67 (k := ?_)
          refine VE_iconst 0 dX5_cell_68 (k := ?_)
          refine VE_aload_n 0 dX5_cell_69 (k := ?_)
          refine VE_getR 25 dX5_cell_70 fl_X5_13 ?_
          refine VE_iload_n 1 dX5_cell_73 (k := ?_)
          refine VE_iald dX5_cell_74 (h7.1 c8).1 ?_
          refine VE_iconst 1 dX5_cell_75 (k := ?_)
          refine VE_isub dX5_cell_76 ?_
          refine VE_cSi [vI a2, vI 0, vI ((σ6 25 a1.toNatClampNeg) - 1)] dX5_cell_77 ml_X5_55 (((h7.1 c8).2.1 c9).1 c10) (fun r11 σ12 h13 => ?_) (rok_D d)
          refine VE_if_ne 89 dX5_cell_80 (fun c14 => ?_) (fun c14 => ?_)
          · refine VE_aload_n 0 dX5_cell_89 (k := ?_)
            refine VE_getR 26 dX5_cell_90 fl_X5_16 ?_
            refine VE_bipush 60 dX5_cell_93 (k := ?_)
            refine VE_iload_n 1 dX5_cell_95 (k := ?_)
            refine VE_imul dX5_cell_96 ?_
            refine VE_iload_n 2 dX5_cell_97 (k := ?_)
            refine VE_iadd dX5_cell_98 ?_
            refine VE_iald dX5_cell_99 (h13.1 c14).1 ?_
            refine VE_i2l dX5_cell_100 ?_
            exact VM_lret dX5_cell_101 (h13.1 c14).2
          · refine VE_aload_n 0 dX5_cell_83 (k := ?_)
            refine VE_iconst 3 dX5_cell_84 (k := ?_)
            refine VE_cVl [vI 3] dX5_cell_85 ml_X5_178 (h13.2 c14) (fun r15 σ16 h17 => ?_) (rok_D d)
            exact VM_lret dX5_cell_88 h17
        · refine VE_aload_n 0 dX5_cell_61 (k := ?_)
          refine VE_iconst 1 dX5_cell_62 (k := ?_)
          refine VE_cVl [vI 1] dX5_cell_63 ml_X5_178 (((h7.1 c8).2.1 c9).2 c10) (fun r18 σ19 h20 => ?_) (rok_D d)
          exact VM_lret dX5_cell_66 h20
      · refine VE_aload_n 0 dX5_cell_34 (k := ?_)
        refine VE_getR 24 dX5_cell_35 fl_X5_9 ?_
        refine VE_iload_n 1 dX5_cell_38 (k := ?_)
        refine VE_iald dX5_cell_39 (h7.1 c8).1 ?_
        refine VE_iload_n 3 dX5_cell_40 (k := ?_)
        refine VE_icmp_eq 50 dX5_cell_41 (fun c21 => ?_) (fun c21 => ?_)
        · refine VE_aload_n 0 dX5_cell_50 (k := ?_)
          refine VE_getR 24 dX5_cell_51 fl_X5_9 ?_
          refine VE_iload_n 1 dX5_cell_54 (k := ?_)
          refine VE_iald dX5_cell_55 (h7.1 c8).1 ?_
          refine VE_bipush (-9) dX5_cell_56 (k := ?_)
          refine VE_icmp_ne 67 dX5_cell_58 (fun c22 => ?_) (fun c22 => ?_)
          · refine VE_iload_n 2 dX5_cell_67 (k := ?_)
            refine VE_iconst 0 dX5_cell_68 (k := ?_)
            refine VE_aload_n 0 dX5_cell_69 (k := ?_)
            refine VE_getR 25 dX5_cell_70 fl_X5_13 ?_
            refine VE_iload_n 1 dX5_cell_73 (k := ?_)
            refine VE_iald dX5_cell_74 (h7.1 c8).1 ?_
            refine VE_iconst 1 dX5_cell_75 (k := ?_)
            refine VE_isub dX5_cell_76 ?_
            refine VE_cSi [vI a2, vI 0, vI ((σ6 25 a1.toNatClampNeg) - 1)] dX5_cell_77 ml_X5_55 ((((h7.1 c8).2.2 c9).1 c21).1 c22) (fun r23 σ24 h25 => ?_) (rok_D d)
            refine VE_if_ne 89 dX5_cell_80 (fun c26 => ?_) (fun c26 => ?_)
            · refine VE_aload_n 0 dX5_cell_89 (k := ?_)
              refine VE_getR 26 dX5_cell_90 fl_X5_16 ?_
              refine VE_bipush 60 dX5_cell_93 (k := ?_)
              refine VE_iload_n 1 dX5_cell_95 (k := ?_)
              refine VE_imul dX5_cell_96 ?_
              refine VE_iload_n 2 dX5_cell_97 (k := ?_)
              refine VE_iadd dX5_cell_98 ?_
              refine VE_iald dX5_cell_99 (h25.1 c26).1 ?_
              refine VE_i2l dX5_cell_100 ?_
              exact VM_lret dX5_cell_101 (h25.1 c26).2
            · refine VE_aload_n 0 dX5_cell_83 (k := ?_)
              refine VE_iconst 3 dX5_cell_84 (k := ?_)
              refine VE_cVl [vI 3] dX5_cell_85 ml_X5_178 (h25.2 c26) (fun r27 σ28 h29 => ?_) (rok_D d)
              exact VM_lret dX5_cell_88 h29
          · refine VE_aload_n 0 dX5_cell_61 (k := ?_)
            refine VE_iconst 1 dX5_cell_62 (k := ?_)
            refine VE_cVl [vI 1] dX5_cell_63 ml_X5_178 ((((h7.1 c8).2.2 c9).1 c21).2 c22) (fun r30 σ31 h32 => ?_) (rok_D d)
            exact VM_lret dX5_cell_66 h32
        · refine VE_aload_n 0 dX5_cell_44 (k := ?_)
          refine VE_iconst 2 dX5_cell_45 (k := ?_)
          refine VE_cVl [vI 2] dX5_cell_46 ml_X5_178 (((h7.1 c8).2.2 c9).2 c21) (fun r33 σ34 h35 => ?_) (rok_D d)
          exact VM_lret dX5_cell_49 h35
    · refine VE_ldc2 (-9223372036854775808) 695 dX5_cell_19 ⟨by decide +kernel, rfl⟩ ?_
      exact VM_lret dX5_cell_22 (h7.2 c8)
theorem dX5_copy_0 : decode cX5_copy 0 = .ok (.aload_n 0, 1) := by decide +kernel
theorem dX5_copy_1 : decode cX5_copy 1 = .ok (.iconst 0, 1) := by decide +kernel
theorem dX5_copy_2 : decode cX5_copy 2 = .ok (.putfield 49, 3) := by decide +kernel
theorem dX5_copy_5 : decode cX5_copy 5 = .ok (.iload_n 1, 1) := by decide +kernel
theorem dX5_copy_6 : decode cX5_copy 6 = .ok (.invokestatic 65, 3) := by decide +kernel
theorem dX5_copy_9 : decode cX5_copy 9 = .ok (.ifCond .eq 10, 3) := by decide +kernel
theorem dX5_copy_12 : decode cX5_copy 12 = .ok (.iload_n 3, 1) := by decide +kernel
theorem dX5_copy_13 : decode cX5_copy 13 = .ok (.invokestatic 65, 3) := by decide +kernel
theorem dX5_copy_16 : decode cX5_copy 16 = .ok (.ifCond .ne 5, 3) := by decide +kernel
theorem dX5_copy_19 : decode cX5_copy 19 = .ok (.iconst (-1), 1) := by decide +kernel
theorem dX5_copy_20 : decode cX5_copy 20 = .ok (.ireturn, 1) := by decide +kernel
theorem dX5_copy_21 : decode cX5_copy 21 = .ok (.aload_n 0, 1) := by decide +kernel
theorem dX5_copy_22 : decode cX5_copy 22 = .ok (.getfield 9, 3) := by decide +kernel
theorem dX5_copy_25 : decode cX5_copy 25 = .ok (.iload_n 1, 1) := by decide +kernel
theorem dX5_copy_26 : decode cX5_copy 26 = .ok (.iaload, 1) := by decide +kernel
theorem dX5_copy_27 : decode cX5_copy 27 = .ok (.bipush (-9), 2) := by decide +kernel
theorem dX5_copy_29 : decode cX5_copy 29 = .ok (.if_icmp .eq 14, 3) := by decide +kernel
theorem dX5_copy_32 : decode cX5_copy 32 = .ok (.aload_n 0, 1) := by decide +kernel
theorem dX5_copy_33 : decode cX5_copy 33 = .ok (.getfield 9, 3) := by decide +kernel
theorem dX5_copy_36 : decode cX5_copy 36 = .ok (.iload_n 3, 1) := by decide +kernel
theorem dX5_copy_37 : decode cX5_copy 37 = .ok (.iaload, 1) := by decide +kernel
theorem dX5_copy_38 : decode cX5_copy 38 = .ok (.bipush (-9), 2) := by decide +kernel
theorem dX5_copy_40 : decode cX5_copy 40 = .ok (.if_icmp .ne 9, 3) := by decide +kernel
theorem dX5_copy_43 : decode cX5_copy 43 = .ok (.aload_n 0, 1) := by decide +kernel
theorem dX5_copy_44 : decode cX5_copy 44 = .ok (.iconst 1, 1) := by decide +kernel
theorem dX5_copy_45 : decode cX5_copy 45 = .ok (.invokevirtual 76, 3) := by decide +kernel
theorem dX5_copy_48 : decode cX5_copy 48 = .ok (.ireturn, 1) := by decide +kernel
theorem dX5_copy_49 : decode cX5_copy 49 = .ok (.aload_n 0, 1) := by decide +kernel
theorem dX5_copy_50 : decode cX5_copy 50 = .ok (.getfield 9, 3) := by decide +kernel
theorem dX5_copy_53 : decode cX5_copy 53 = .ok (.iload_n 1, 1) := by decide +kernel
theorem dX5_copy_54 : decode cX5_copy 54 = .ok (.iaload, 1) := by decide +kernel
theorem dX5_copy_55 : decode cX5_copy 55 = .ok (.aload_n 0, 1) := by decide +kernel
theorem dX5_copy_56 : decode cX5_copy 56 = .ok (.getfield 9, 3) := by decide +kernel
theorem dX5_copy_59 : decode cX5_copy 59 = .ok (.iload_n 3, 1) := by decide +kernel
theorem dX5_copy_60 : decode cX5_copy 60 = .ok (.iaload, 1) := by decide +kernel
theorem dX5_copy_61 : decode cX5_copy 61 = .ok (.if_icmp .eq 9, 3) := by decide +kernel
theorem dX5_copy_64 : decode cX5_copy 64 = .ok (.aload_n 0, 1) := by decide +kernel
theorem dX5_copy_65 : decode cX5_copy 65 = .ok (.iconst 2, 1) := by decide +kernel
theorem dX5_copy_66 : decode cX5_copy 66 = .ok (.invokevirtual 76, 3) := by decide +kernel
theorem dX5_copy_69 : decode cX5_copy 69 = .ok (.ireturn, 1) := by decide +kernel
theorem dX5_copy_70 : decode cX5_copy 70 = .ok (.iload_n 2, 1) := by decide +kernel
theorem dX5_copy_71 : decode cX5_copy 71 = .ok (.ifCond .lt 38, 3) := by decide +kernel
theorem dX5_copy_74 : decode cX5_copy 74 = .ok (.iload 4, 2) := by decide +kernel
theorem dX5_copy_76 : decode cX5_copy 76 = .ok (.ifCond .lt 33, 3) := by decide +kernel
theorem dX5_copy_79 : decode cX5_copy 79 = .ok (.iload 5, 2) := by decide +kernel
theorem dX5_copy_81 : decode cX5_copy 81 = .ok (.ifCond .lt 28, 3) := by decide +kernel
theorem dX5_copy_84 : decode cX5_copy 84 = .ok (.iload_n 2, 1) := by decide +kernel
theorem dX5_copy_85 : decode cX5_copy 85 = .ok (.aload_n 0, 1) := by decide +kernel
theorem dX5_copy_86 : decode cX5_copy 86 = .ok (.getfield 13, 3) := by decide +kernel
theorem dX5_copy_89 : decode cX5_copy 89 = .ok (.iload_n 1, 1) := by decide +kernel
theorem dX5_copy_90 : decode cX5_copy 90 = .ok (.iaload, 1) := by decide +kernel
theorem dX5_copy_91 : decode cX5_copy 91 = .ok (.if_icmp .gt 18, 3) := by decide +kernel
theorem dX5_copy_94 : decode cX5_copy 94 = .ok (.iload 4, 2) := by decide +kernel
theorem dX5_copy_96 : decode cX5_copy 96 = .ok (.aload_n 0, 1) := by decide +kernel
theorem dX5_copy_97 : decode cX5_copy 97 = .ok (.getfield 13, 3) := by decide +kernel
theorem dX5_copy_100 : decode cX5_copy 100 = .ok (.iload_n 3, 1) := by decide +kernel
theorem dX5_copy_101 : decode cX5_copy 101 = .ok (.iaload, 1) := by decide +kernel
theorem dX5_copy_102 : decode cX5_copy 102 = .ok (.if_icmp .gt 7, 3) := by decide +kernel
theorem dX5_copy_105 : decode cX5_copy 105 = .ok (.iconst 1, 1) := by decide +kernel
theorem dX5_copy_106 : decode cX5_copy 106 = .ok (.goto 4, 3) := by decide +kernel
theorem dX5_copy_109 : decode cX5_copy 109 = .ok (.iconst 0, 1) := by decide +kernel
theorem dX5_copy_110 : decode cX5_copy 110 = .ok (.istore 6, 2) := by decide +kernel
theorem dX5_copy_112 : decode cX5_copy 112 = .ok (.iload 6, 2) := by decide +kernel
theorem dX5_copy_114 : decode cX5_copy 114 = .ok (.ifCond .eq 30, 3) := by decide +kernel
theorem dX5_copy_117 : decode cX5_copy 117 = .ok (.iload 5, 2) := by decide +kernel
theorem dX5_copy_119 : decode cX5_copy 119 = .ok (.aload_n 0, 1) := by decide +kernel
theorem dX5_copy_120 : decode cX5_copy 120 = .ok (.getfield 13, 3) := by decide +kernel
theorem dX5_copy_123 : decode cX5_copy 123 = .ok (.iload_n 1, 1) := by decide +kernel
theorem dX5_copy_124 : decode cX5_copy 124 = .ok (.iaload, 1) := by decide +kernel
theorem dX5_copy_125 : decode cX5_copy 125 = .ok (.iload_n 2, 1) := by decide +kernel
theorem dX5_copy_126 : decode cX5_copy 126 = .ok (.isub, 1) := by decide +kernel
theorem dX5_copy_127 : decode cX5_copy 127 = .ok (.if_icmp .gt 17, 3) := by decide +kernel
theorem dX5_copy_130 : decode cX5_copy 130 = .ok (.iload 5, 2) := by decide +kernel
theorem dX5_copy_132 : decode cX5_copy 132 = .ok (.aload_n 0, 1) := by decide +kernel
theorem dX5_copy_133 : decode cX5_copy 133 = .ok (.getfield 13, 3) := by decide +kernel
theorem dX5_copy_136 : decode cX5_copy 136 = .ok (.iload_n 3, 1) := by decide +kernel
theorem dX5_copy_137 : decode cX5_copy 137 = .ok (.iaload, 1) := by decide +kernel
theorem dX5_copy_138 : decode cX5_copy 138 = .ok (.iload 4, 2) := by decide +kernel
theorem dX5_copy_140 : decode cX5_copy 140 = .ok (.isub, 1) := by decide +kernel
theorem dX5_copy_141 : decode cX5_copy 141 = .ok (.if_icmp .le 9, 3) := by decide +kernel
theorem dX5_copy_144 : decode cX5_copy 144 = .ok (.aload_n 0, 1) := by decide +kernel
theorem dX5_copy_145 : decode cX5_copy 145 = .ok (.iconst 3, 1) := by decide +kernel
theorem dX5_copy_146 : decode cX5_copy 146 = .ok (.invokevirtual 76, 3) := by decide +kernel
theorem dX5_copy_149 : decode cX5_copy 149 = .ok (.ireturn, 1) := by decide +kernel
theorem dX5_copy_150 : decode cX5_copy 150 = .ok (.iload_n 2, 1) := by decide +kernel
theorem dX5_copy_151 : decode cX5_copy 151 = .ok (.iload 4, 2) := by decide +kernel
theorem dX5_copy_153 : decode cX5_copy 153 = .ok (.if_icmp .ge 7, 3) := by decide +kernel
theorem dX5_copy_156 : decode cX5_copy 156 = .ok (.iconst 1, 1) := by decide +kernel
theorem dX5_copy_157 : decode cX5_copy 157 = .ok (.goto 4, 3) := by decide +kernel
theorem dX5_copy_160 : decode cX5_copy 160 = .ok (.iconst 0, 1) := by decide +kernel
theorem dX5_copy_161 : decode cX5_copy 161 = .ok (.istore 7, 2) := by decide +kernel
theorem dX5_copy_163 : decode cX5_copy 163 = .ok (.iconst 0, 1) := by decide +kernel
theorem dX5_copy_164 : decode cX5_copy 164 = .ok (.istore 8, 2) := by decide +kernel
theorem dX5_copy_166 : decode cX5_copy 166 = .ok (.iload 8, 2) := by decide +kernel
theorem dX5_copy_168 : decode cX5_copy 168 = .ok (.iload 5, 2) := by decide +kernel
theorem dX5_copy_170 : decode cX5_copy 170 = .ok (.if_icmp .ge 57, 3) := by decide +kernel
theorem dX5_copy_173 : decode cX5_copy 173 = .ok (.iload 7, 2) := by decide +kernel
theorem dX5_copy_175 : decode cX5_copy 175 = .ok (.ifCond .eq 13, 3) := by decide +kernel
theorem dX5_copy_178 : decode cX5_copy 178 = .ok (.iload 5, 2) := by decide +kernel
theorem dX5_copy_180 : decode cX5_copy 180 = .ok (.iconst 1, 1) := by decide +kernel
theorem dX5_copy_181 : decode cX5_copy 181 = .ok (.isub, 1) := by decide +kernel
theorem dX5_copy_182 : decode cX5_copy 182 = .ok (.iload 8, 2) := by decide +kernel
theorem dX5_copy_184 : decode cX5_copy 184 = .ok (.isub, 1) := by decide +kernel
theorem dX5_copy_185 : decode cX5_copy 185 = .ok (.goto 5, 3) := by decide +kernel
theorem dX5_copy_188 : decode cX5_copy 188 = .ok (.iload 8, 2) := by decide +kernel
theorem dX5_copy_190 : decode cX5_copy 190 = .ok (.istore 9, 2) := by decide +kernel
theorem dX5_copy_192 : decode cX5_copy 192 = .ok (.aload_n 0, 1) := by decide +kernel
theorem dX5_copy_193 : decode cX5_copy 193 = .ok (.getfield 16, 3) := by decide +kernel
theorem dX5_copy_196 : decode cX5_copy 196 = .ok (.bipush 60, 2) := by decide +kernel
theorem dX5_copy_198 : decode cX5_copy 198 = .ok (.iload_n 3, 1) := by decide +kernel
theorem dX5_copy_199 : decode cX5_copy 199 = .ok (.imul, 1) := by decide +kernel
theorem dX5_copy_200 : decode cX5_copy 200 = .ok (.iload 4, 2) := by decide +kernel
theorem dX5_copy_202 : decode cX5_copy 202 = .ok (.iadd, 1) := by decide +kernel
theorem dX5_copy_203 : decode cX5_copy 203 = .ok (.iload 9, 2) := by decide +kernel
theorem dX5_copy_205 : decode cX5_copy 205 = .ok (.iadd, 1) := by decide +kernel
theorem dX5_copy_206 : decode cX5_copy 206 = .ok (.aload_n 0, 1) := by decide +kernel
theorem dX5_copy_207 : decode cX5_copy 207 = .ok (.getfield 16, 3) := by decide +kernel
theorem dX5_copy_210 : decode cX5_copy 210 = .ok (.bipush 60, 2) := by decide +kernel
theorem dX5_copy_212 : decode cX5_copy 212 = .ok (.iload_n 1, 1) := by decide +kernel
theorem dX5_copy_213 : decode cX5_copy 213 = .ok (.imul, 1) := by decide +kernel
theorem dX5_copy_214 : decode cX5_copy 214 = .ok (.iload_n 2, 1) := by decide +kernel
theorem dX5_copy_215 : decode cX5_copy 215 = .ok (.iadd, 1) := by decide +kernel
theorem dX5_copy_216 : decode cX5_copy 216 = .ok (.iload 9, 2) := by decide +kernel
theorem dX5_copy_218 : decode cX5_copy 218 = .ok (.iadd, 1) := by decide +kernel
theorem dX5_copy_219 : decode cX5_copy 219 = .ok (.iaload, 1) := by decide +kernel
theorem dX5_copy_220 : decode cX5_copy 220 = .ok (.iastore, 1) := by decide +kernel
theorem dX5_copy_221 : decode cX5_copy 221 = .ok (.iinc 8 1, 3) := by decide +kernel
theorem dX5_copy_224 : decode cX5_copy 224 = .ok (.goto (-58), 3) := by decide +kernel
theorem dX5_copy_227 : decode cX5_copy 227 = .ok (.iload 5, 2) := by decide +kernel
theorem dX5_copy_229 : decode cX5_copy 229 = .ok (.ireturn, 1) := by decide +kernel
set_option maxRecDepth 20000 in
theorem S_X5_copy_0 {g : GG} {d : Nat} {F : Int32 → St → Prop} (a1 : Int32) (a2 : Int32) (a3 : Int32) (a4 : Int32) (a5 : Int32) (σ : St) (h : (ME g d M_X5_isSheet [vI a1] (sU σ 23 0 0) (qI (fun r1 σ2 => ((r1 = 0 → F (-1) σ2) ∧ (¬ r1 = 0 → (ME g d M_X5_isSheet [vI a3] σ2 (qI (fun r5 σ6 => ((¬ r5 = 0 → (vp_in a1 4 ∧ (((σ6 24 a1.toNatClampNeg) = (-9) → (ME g d M_X5_fails [vR 23, vI 1] σ6 (qI (fun r10 σ11 => F r10 σ11)))) ∧ (¬ (σ6 24 a1.toNatClampNeg) = (-9) → (vp_in a3 4 ∧ ((¬ (σ6 24 a3.toNatClampNeg) = (-9) → (((σ6 24 a1.toNatClampNeg) = (σ6 24 a3.toNatClampNeg) → ((a2 < 0 → (ME g d M_X5_fails [vR 23, vI 3] σ6 (qI (fun r17 σ18 => F r17 σ18)))) ∧ (¬ a2 < 0 → ((a4 < 0 → (ME g d M_X5_fails [vR 23, vI 3] σ6 (qI (fun r22 σ23 => F r22 σ23)))) ∧ (¬ a4 < 0 → ((a5 < 0 → (ME g d M_X5_fails [vR 23, vI 3] σ6 (qI (fun r27 σ28 => F r27 σ28)))) ∧ (¬ a5 < 0 → (((σ6 25 a1.toNatClampNeg) < a2 → (ME g d M_X5_fails [vR 23, vI 3] σ6 (qI (fun r32 σ33 => F r32 σ33)))) ∧ (¬ (σ6 25 a1.toNatClampNeg) < a2 → (((σ6 25 a3.toNatClampNeg) < a4 → (ME g d M_X5_fails [vR 23, vI 3] σ6 (qI (fun r37 σ38 => F r37 σ38)))) ∧ (¬ (σ6 25 a3.toNatClampNeg) < a4 → ((((σ6 25 a1.toNatClampNeg) - a2) < a5 → (ME g d M_X5_fails [vR 23, vI 3] σ6 (qI (fun r42 σ43 => F r42 σ43)))) ∧ (¬ ((σ6 25 a1.toNatClampNeg) - a2) < a5 → ((a5 ≤ ((σ6 25 a3.toNatClampNeg) - a4) → ((a4 ≤ a2 → VM g (d + 1) M_X5_copy (qI F) 166 [(0, vR 23), (1, vI a1), (2, vI a2), (3, vI a3), (4, vI a4), (5, vI a5), (6, vI 1), (7, vI 0), (8, vI 0)] [] σ6) ∧ (¬ a4 ≤ a2 → VM g (d + 1) M_X5_copy (qI F) 166 [(0, vR 23), (1, vI a1), (2, vI a2), (3, vI a3), (4, vI a4), (5, vI a5), (6, vI 1), (7, vI 1), (8, vI 0)] [] σ6))) ∧ (¬ a5 ≤ ((σ6 25 a3.toNatClampNeg) - a4) → (ME g d M_X5_fails [vR 23, vI 3] σ6 (qI (fun r47 σ48 => F r47 σ48)))))))))))))))))) ∧ (¬ (σ6 24 a1.toNatClampNeg) = (σ6 24 a3.toNatClampNeg) → (ME g d M_X5_fails [vR 23, vI 2] σ6 (qI (fun r50 σ51 => F r50 σ51)))))) ∧ ((σ6 24 a3.toNatClampNeg) = (-9) → (ME g d M_X5_fails [vR 23, vI 1] σ6 (qI (fun r53 σ54 => F r53 σ54)))))))))) ∧ (r5 = 0 → F (-1) σ6))))))))))) : VM g (d + 1) M_X5_copy (qI F) 0 [(0, vR 23), (1, vI a1), (2, vI a2), (3, vI a3), (4, vI a4), (5, vI a5)] [] σ := by
  refine VE_aload_n 0 dX5_copy_0 (k := ?_)
  refine VE_iconst 0 dX5_copy_1 (k := ?_)
  refine VE_put dX5_copy_2 fl_X5_49 ?_
  refine VE_iload_n 1 dX5_copy_5 (k := ?_)
  refine VE_cSi [vI a1] dX5_copy_6 ml_X5_65 h (fun r1 σ2 h3 => ?_) (rok_D d)
  refine VE_if_eq 19 dX5_copy_9 (fun c4 => ?_) (fun c4 => ?_)
  · refine VE_iconst (-1) dX5_copy_19 (k := ?_)
    exact VM_iret dX5_copy_20 (h3.1 c4)
  · refine VE_iload_n 3 dX5_copy_12 (k := ?_)
    refine VE_cSi [vI a3] dX5_copy_13 ml_X5_65 (h3.2 c4) (fun r5 σ6 h7 => ?_) (rok_D d)
    refine VE_if_ne 21 dX5_copy_16 (fun c8 => ?_) (fun c8 => ?_)
    · refine VE_aload_n 0 dX5_copy_21 (k := ?_)
      refine VE_getR 24 dX5_copy_22 fl_X5_9 ?_
      refine VE_iload_n 1 dX5_copy_25 (k := ?_)
      refine VE_iald dX5_copy_26 (h7.1 c8).1 ?_
      refine VE_bipush (-9) dX5_copy_27 (k := ?_)
      refine VE_icmp_eq 43 dX5_copy_29 (fun c9 => ?_) (fun c9 => ?_)
      · refine VE_aload_n 0 dX5_copy_43 (k := ?_)
        refine VE_iconst 1 dX5_copy_44 (k := ?_)
        refine VE_cVi [vI 1] dX5_copy_45 ml_X5_76 ((h7.1 c8).2.1 c9) (fun r10 σ11 h12 => ?_) (rok_D d)
        exact VM_iret dX5_copy_48 h12
      · refine VE_aload_n 0 dX5_copy_32 (k := ?_)
        refine VE_getR 24 dX5_copy_33 fl_X5_9 ?_
        refine VE_iload_n 3 dX5_copy_36 (k := ?_)
        refine VE_iald dX5_copy_37 ((h7.1 c8).2.2 c9).1 ?_
        refine VE_bipush (-9) dX5_copy_38 (k := ?_)
        refine VE_icmp_ne 49 dX5_copy_40 (fun c13 => ?_) (fun c13 => ?_)
        · refine VE_aload_n 0 dX5_copy_49 (k := ?_)
          refine VE_getR 24 dX5_copy_50 fl_X5_9 ?_
          refine VE_iload_n 1 dX5_copy_53 (k := ?_)
          refine VE_iald dX5_copy_54 (h7.1 c8).1 ?_
          refine VE_aload_n 0 dX5_copy_55 (k := ?_)
          refine VE_getR 24 dX5_copy_56 fl_X5_9 ?_
          refine VE_iload_n 3 dX5_copy_59 (k := ?_)
          refine VE_iald dX5_copy_60 ((h7.1 c8).2.2 c9).1 ?_
          refine VE_icmp_eq 70 dX5_copy_61 (fun c14 => ?_) (fun c14 => ?_)
          · refine VE_iload_n 2 dX5_copy_70 (k := ?_)
            refine VE_if_lt 109 dX5_copy_71 (fun c15 => ?_) (fun c15 => ?_)
            · refine VE_iconst 0 dX5_copy_109 (k := ?_)
              refine VE_istore (ls' := [(6, vI 0), (0, vR 23), (1, vI a1), (2, vI a2), (3, vI a3), (4, vI a4), (5, vI a5)]) dX5_copy_110 ?_
              refine VE_iload 0 dX5_copy_112 (k := ?_)
              refine VE_if_eq 144 dX5_copy_114 (fun _ => ?_) (fun c16 => absurd (by decide) c16)
              refine VE_aload_n 1 dX5_copy_144 (k := ?_)
              refine VE_iconst 3 dX5_copy_145 (k := ?_)
              refine VE_cVi [vI 3] dX5_copy_146 ml_X5_76 (((((h7.1 c8).2.2 c9).2.1 c13).1 c14).1 c15) (fun r17 σ18 h19 => ?_) (rok_D d)
              exact VM_iret dX5_copy_149 h19
            · refine VE_iload 4 dX5_copy_74 (k := ?_)
              refine VE_if_lt 109 dX5_copy_76 (fun c20 => ?_) (fun c20 => ?_)
              · refine VE_iconst 0 dX5_copy_109 (k := ?_)
                refine VE_istore (ls' := [(6, vI 0), (0, vR 23), (1, vI a1), (2, vI a2), (3, vI a3), (4, vI a4), (5, vI a5)]) dX5_copy_110 ?_
                refine VE_iload 0 dX5_copy_112 (k := ?_)
                refine VE_if_eq 144 dX5_copy_114 (fun _ => ?_) (fun c21 => absurd (by decide) c21)
                refine VE_aload_n 1 dX5_copy_144 (k := ?_)
                refine VE_iconst 3 dX5_copy_145 (k := ?_)
                refine VE_cVi [vI 3] dX5_copy_146 ml_X5_76 ((((((h7.1 c8).2.2 c9).2.1 c13).1 c14).2 c15).1 c20) (fun r22 σ23 h24 => ?_) (rok_D d)
                exact VM_iret dX5_copy_149 h24
              · refine VE_iload 5 dX5_copy_79 (k := ?_)
                refine VE_if_lt 109 dX5_copy_81 (fun c25 => ?_) (fun c25 => ?_)
                · refine VE_iconst 0 dX5_copy_109 (k := ?_)
                  refine VE_istore (ls' := [(6, vI 0), (0, vR 23), (1, vI a1), (2, vI a2), (3, vI a3), (4, vI a4), (5, vI a5)]) dX5_copy_110 ?_
                  refine VE_iload 0 dX5_copy_112 (k := ?_)
                  refine VE_if_eq 144 dX5_copy_114 (fun _ => ?_) (fun c26 => absurd (by decide) c26)
                  refine VE_aload_n 1 dX5_copy_144 (k := ?_)
                  refine VE_iconst 3 dX5_copy_145 (k := ?_)
                  refine VE_cVi [vI 3] dX5_copy_146 ml_X5_76 (((((((h7.1 c8).2.2 c9).2.1 c13).1 c14).2 c15).2 c20).1 c25) (fun r27 σ28 h29 => ?_) (rok_D d)
                  exact VM_iret dX5_copy_149 h29
                · refine VE_iload_n 2 dX5_copy_84 (k := ?_)
                  refine VE_aload_n 0 dX5_copy_85 (k := ?_)
                  refine VE_getR 25 dX5_copy_86 fl_X5_13 ?_
                  refine VE_iload_n 1 dX5_copy_89 (k := ?_)
                  refine VE_iald dX5_copy_90 (h7.1 c8).1 ?_
                  refine VE_icmp_gt 109 dX5_copy_91 (fun c30 => ?_) (fun c30 => ?_)
                  · refine VE_iconst 0 dX5_copy_109 (k := ?_)
                    refine VE_istore (ls' := [(6, vI 0), (0, vR 23), (1, vI a1), (2, vI a2), (3, vI a3), (4, vI a4), (5, vI a5)]) dX5_copy_110 ?_
                    refine VE_iload 0 dX5_copy_112 (k := ?_)
                    refine VE_if_eq 144 dX5_copy_114 (fun _ => ?_) (fun c31 => absurd (by decide) c31)
                    refine VE_aload_n 1 dX5_copy_144 (k := ?_)
                    refine VE_iconst 3 dX5_copy_145 (k := ?_)
                    refine VE_cVi [vI 3] dX5_copy_146 ml_X5_76 ((((((((h7.1 c8).2.2 c9).2.1 c13).1 c14).2 c15).2 c20).2 c25).1 c30) (fun r32 σ33 h34 => ?_) (rok_D d)
                    exact VM_iret dX5_copy_149 h34
                  · refine VE_iload 4 dX5_copy_94 (k := ?_)
                    refine VE_aload_n 0 dX5_copy_96 (k := ?_)
                    refine VE_getR 25 dX5_copy_97 fl_X5_13 ?_
                    refine VE_iload_n 3 dX5_copy_100 (k := ?_)
                    refine VE_iald dX5_copy_101 ((h7.1 c8).2.2 c9).1 ?_
                    refine VE_icmp_gt 109 dX5_copy_102 (fun c35 => ?_) (fun c35 => ?_)
                    · refine VE_iconst 0 dX5_copy_109 (k := ?_)
                      refine VE_istore (ls' := [(6, vI 0), (0, vR 23), (1, vI a1), (2, vI a2), (3, vI a3), (4, vI a4), (5, vI a5)]) dX5_copy_110 ?_
                      refine VE_iload 0 dX5_copy_112 (k := ?_)
                      refine VE_if_eq 144 dX5_copy_114 (fun _ => ?_) (fun c36 => absurd (by decide) c36)
                      refine VE_aload_n 1 dX5_copy_144 (k := ?_)
                      refine VE_iconst 3 dX5_copy_145 (k := ?_)
                      refine VE_cVi [vI 3] dX5_copy_146 ml_X5_76 (((((((((h7.1 c8).2.2 c9).2.1 c13).1 c14).2 c15).2 c20).2 c25).2 c30).1 c35) (fun r37 σ38 h39 => ?_) (rok_D d)
                      exact VM_iret dX5_copy_149 h39
                    · refine VE_iconst 1 dX5_copy_105 (k := ?_)
                      refine VE_goto 110 dX5_copy_106 ?_
                      refine VE_istore (ls' := [(6, vI 1), (0, vR 23), (1, vI a1), (2, vI a2), (3, vI a3), (4, vI a4), (5, vI a5)]) dX5_copy_110 ?_
                      refine VE_iload 0 dX5_copy_112 (k := ?_)
                      refine VE_if_eq 144 dX5_copy_114 (fun c40 => absurd c40 (by decide)) (fun _ => ?_)
                      refine VE_iload 6 dX5_copy_117 (k := ?_)
                      refine VE_aload_n 1 dX5_copy_119 (k := ?_)
                      refine VE_getR 25 dX5_copy_120 fl_X5_13 ?_
                      refine VE_iload_n 2 dX5_copy_123 (k := ?_)
                      refine VE_iald dX5_copy_124 (h7.1 c8).1 ?_
                      refine VE_iload_n 3 dX5_copy_125 (k := ?_)
                      refine VE_isub dX5_copy_126 ?_
                      refine VE_icmp_gt 144 dX5_copy_127 (fun c41 => ?_) (fun c41 => ?_)
                      · refine VE_aload_n 1 dX5_copy_144 (k := ?_)
                        refine VE_iconst 3 dX5_copy_145 (k := ?_)
                        refine VE_cVi [vI 3] dX5_copy_146 ml_X5_76 ((((((((((h7.1 c8).2.2 c9).2.1 c13).1 c14).2 c15).2 c20).2 c25).2 c30).2 c35).1 c41) (fun r42 σ43 h44 => ?_) (rok_D d)
                        exact VM_iret dX5_copy_149 h44
                      · refine VE_iload 6 dX5_copy_130 (k := ?_)
                        refine VE_aload_n 1 dX5_copy_132 (k := ?_)
                        refine VE_getR 25 dX5_copy_133 fl_X5_13 ?_
                        refine VE_iload_n 4 dX5_copy_136 (k := ?_)
                        refine VE_iald dX5_copy_137 ((h7.1 c8).2.2 c9).1 ?_
                        refine VE_iload 5 dX5_copy_138 (k := ?_)
                        refine VE_isub dX5_copy_140 ?_
                        refine VE_icmp_le 150 dX5_copy_141 (fun c45 => ?_) (fun c45 => ?_)
                        · refine VE_iload_n 3 dX5_copy_150 (k := ?_)
                          refine VE_iload 5 dX5_copy_151 (k := ?_)
                          refine VE_icmp_ge 160 dX5_copy_153 (fun c46 => ?_) (fun c46 => ?_)
                          · refine VE_iconst 0 dX5_copy_160 (k := ?_)
                            refine VE_istore (ls' := [(7, vI 0), (6, vI 1), (0, vR 23), (1, vI a1), (2, vI a2), (3, vI a3), (4, vI a4), (5, vI a5)]) dX5_copy_161 ?_
                            refine VE_iconst 0 dX5_copy_163 (k := ?_)
                            refine VE_istore (ls' := [(8, vI 0), (7, vI 0), (6, vI 1), (0, vR 23), (1, vI a1), (2, vI a2), (3, vI a3), (4, vI a4), (5, vI a5)]) dX5_copy_164 ?_
                            exact VE_sub [3, 4, 5, 6, 7, 8, 2, 1, 0] rfl ((((((((((((h7.1 c8).2.2 c9).2.1 c13).1 c14).2 c15).2 c20).2 c25).2 c30).2 c35).2 c41).1 c45).1 c46)
                          · refine VE_iconst 1 dX5_copy_156 (k := ?_)
                            refine VE_goto 161 dX5_copy_157 ?_
                            refine VE_istore (ls' := [(7, vI 1), (6, vI 1), (0, vR 23), (1, vI a1), (2, vI a2), (3, vI a3), (4, vI a4), (5, vI a5)]) dX5_copy_161 ?_
                            refine VE_iconst 0 dX5_copy_163 (k := ?_)
                            refine VE_istore (ls' := [(8, vI 0), (7, vI 1), (6, vI 1), (0, vR 23), (1, vI a1), (2, vI a2), (3, vI a3), (4, vI a4), (5, vI a5)]) dX5_copy_164 ?_
                            exact VE_sub [3, 4, 5, 6, 7, 8, 2, 1, 0] rfl ((((((((((((h7.1 c8).2.2 c9).2.1 c13).1 c14).2 c15).2 c20).2 c25).2 c30).2 c35).2 c41).1 c45).2 c46)
                        · refine VE_aload_n 1 dX5_copy_144 (k := ?_)
                          refine VE_iconst 3 dX5_copy_145 (k := ?_)
                          refine VE_cVi [vI 3] dX5_copy_146 ml_X5_76 (((((((((((h7.1 c8).2.2 c9).2.1 c13).1 c14).2 c15).2 c20).2 c25).2 c30).2 c35).2 c41).2 c45) (fun r47 σ48 h49 => ?_) (rok_D d)
                          exact VM_iret dX5_copy_149 h49
          · refine VE_aload_n 0 dX5_copy_64 (k := ?_)
            refine VE_iconst 2 dX5_copy_65 (k := ?_)
            refine VE_cVi [vI 2] dX5_copy_66 ml_X5_76 ((((h7.1 c8).2.2 c9).2.1 c13).2 c14) (fun r50 σ51 h52 => ?_) (rok_D d)
            exact VM_iret dX5_copy_69 h52
        · refine VE_aload_n 0 dX5_copy_43 (k := ?_)
          refine VE_iconst 1 dX5_copy_44 (k := ?_)
          refine VE_cVi [vI 1] dX5_copy_45 ml_X5_76 (((h7.1 c8).2.2 c9).2.2 c13) (fun r53 σ54 h55 => ?_) (rok_D d)
          exact VM_iret dX5_copy_48 h55
    · refine VE_iconst (-1) dX5_copy_19 (k := ?_)
      exact VM_iret dX5_copy_20 (h7.2 c8)
set_option maxRecDepth 20000 in
theorem S_X5_copy_166 {g : GG} {d : Nat} {F : Int32 → St → Prop} (x1 : Int32) (x2 : Int32) (x3 : Int32) (x4 : Int32) (x5 : Int32) (x6 : Int32) (x7 : Int32) (x8 : Int32) (σ : St) (h : ((x5 ≤ x8 → F x5 σ) ∧ (¬ x5 ≤ x8 → ((x7 = 0 → (vp_in (((60 * x1) + x2) + x8) 240 ∧ (vp_in (((60 * x3) + x4) + x8) 240 ∧ VM g (d + 1) M_X5_copy (qI F) 166 [(0, vR 23), (1, vI x1), (2, vI x2), (3, vI x3), (4, vI x4), (5, vI x5), (6, vI x6), (7, vI x7), (8, vI (x8 + 1))] [] (sU σ 26 ((((60 * x3) + x4) + x8).toNatClampNeg) (σ 26 ((((60 * x1) + x2) + x8).toNatClampNeg)))))) ∧ (¬ x7 = 0 → (vp_in (((60 * x1) + x2) + ((x5 - 1) - x8)) 240 ∧ (vp_in (((60 * x3) + x4) + ((x5 - 1) - x8)) 240 ∧ VM g (d + 1) M_X5_copy (qI F) 166 [(0, vR 23), (1, vI x1), (2, vI x2), (3, vI x3), (4, vI x4), (5, vI x5), (6, vI x6), (7, vI x7), (8, vI (x8 + 1))] [] (sU σ 26 ((((60 * x3) + x4) + ((x5 - 1) - x8)).toNatClampNeg) (σ 26 ((((60 * x1) + x2) + ((x5 - 1) - x8)).toNatClampNeg)))))))))) : VM g (d + 1) M_X5_copy (qI F) 166 [(0, vR 23), (1, vI x1), (2, vI x2), (3, vI x3), (4, vI x4), (5, vI x5), (6, vI x6), (7, vI x7), (8, vI x8)] [] σ := by
  refine VE_iload 8 dX5_copy_166 (k := ?_)
  refine VE_iload 5 dX5_copy_168 (k := ?_)
  refine VE_icmp_ge 227 dX5_copy_170 (fun c1 => ?_) (fun c1 => ?_)
  · refine VE_iload 5 dX5_copy_227 (k := ?_)
    exact VM_iret dX5_copy_229 (h.1 c1)
  · refine VE_iload 7 dX5_copy_173 (k := ?_)
    refine VE_if_eq 188 dX5_copy_175 (fun c2 => ?_) (fun c2 => ?_)
    · refine VE_iload 8 dX5_copy_188 (k := ?_)
      refine VE_istore (ls' := [(9, vI x8), (0, vR 23), (1, vI x1), (2, vI x2), (3, vI x3), (4, vI x4), (5, vI x5), (6, vI x6), (7, vI x7), (8, vI x8)]) dX5_copy_190 ?_
      refine VE_aload_n 1 dX5_copy_192 (k := ?_)
      refine VE_getR 26 dX5_copy_193 fl_X5_16 ?_
      refine VE_bipush 60 dX5_copy_196 (k := ?_)
      refine VE_iload_n 4 dX5_copy_198 (k := ?_)
      refine VE_imul dX5_copy_199 ?_
      refine VE_iload 5 dX5_copy_200 (k := ?_)
      refine VE_iadd dX5_copy_202 ?_
      refine VE_iload 0 dX5_copy_203 (k := ?_)
      refine VE_iadd dX5_copy_205 ?_
      refine VE_aload_n 1 dX5_copy_206 (k := ?_)
      refine VE_getR 26 dX5_copy_207 fl_X5_16 ?_
      refine VE_bipush 60 dX5_copy_210 (k := ?_)
      refine VE_iload_n 2 dX5_copy_212 (k := ?_)
      refine VE_imul dX5_copy_213 ?_
      refine VE_iload_n 3 dX5_copy_214 (k := ?_)
      refine VE_iadd dX5_copy_215 ?_
      refine VE_iload 0 dX5_copy_216 (k := ?_)
      refine VE_iadd dX5_copy_218 ?_
      refine VE_iald dX5_copy_219 ((h.2 c1).1 c2).1 ?_
      refine VE_iast dX5_copy_220 ((h.2 c1).1 c2).2.1 ?_
      refine VE_iinc 9 (x8 + 1) (ls' := [(8, vI (x8 + 1)), (9, vI x8), (0, vR 23), (1, vI x1), (2, vI x2), (3, vI x3), (4, vI x4), (5, vI x5), (6, vI x6), (7, vI x7)]) dX5_copy_221 ?_
      refine VE_goto 166 dX5_copy_224 ?_
      exact VE_sub [2, 3, 4, 5, 6, 7, 8, 9, 0] rfl ((h.2 c1).1 c2).2.2
    · refine VE_iload 5 dX5_copy_178 (k := ?_)
      refine VE_iconst 1 dX5_copy_180 (k := ?_)
      refine VE_isub dX5_copy_181 ?_
      refine VE_iload 8 dX5_copy_182 (k := ?_)
      refine VE_isub dX5_copy_184 ?_
      refine VE_goto 190 dX5_copy_185 ?_
      refine VE_istore (ls' := [(9, vI ((x5 - 1) - x8)), (0, vR 23), (1, vI x1), (2, vI x2), (3, vI x3), (4, vI x4), (5, vI x5), (6, vI x6), (7, vI x7), (8, vI x8)]) dX5_copy_190 ?_
      refine VE_aload_n 1 dX5_copy_192 (k := ?_)
      refine VE_getR 26 dX5_copy_193 fl_X5_16 ?_
      refine VE_bipush 60 dX5_copy_196 (k := ?_)
      refine VE_iload_n 4 dX5_copy_198 (k := ?_)
      refine VE_imul dX5_copy_199 ?_
      refine VE_iload 5 dX5_copy_200 (k := ?_)
      refine VE_iadd dX5_copy_202 ?_
      refine VE_iload 0 dX5_copy_203 (k := ?_)
      refine VE_iadd dX5_copy_205 ?_
      refine VE_aload_n 1 dX5_copy_206 (k := ?_)
      refine VE_getR 26 dX5_copy_207 fl_X5_16 ?_
      refine VE_bipush 60 dX5_copy_210 (k := ?_)
      refine VE_iload_n 2 dX5_copy_212 (k := ?_)
      refine VE_imul dX5_copy_213 ?_
      refine VE_iload_n 3 dX5_copy_214 (k := ?_)
      refine VE_iadd dX5_copy_215 ?_
      refine VE_iload 0 dX5_copy_216 (k := ?_)
      refine VE_iadd dX5_copy_218 ?_
      refine VE_iald dX5_copy_219 ((h.2 c1).2 c2).1 ?_
      refine VE_iast dX5_copy_220 ((h.2 c1).2 c2).2.1 ?_
      refine VE_iinc 9 (x8 + 1) (ls' := [(8, vI (x8 + 1)), (9, vI ((x5 - 1) - x8)), (0, vR 23), (1, vI x1), (2, vI x2), (3, vI x3), (4, vI x4), (5, vI x5), (6, vI x6), (7, vI x7)]) dX5_copy_221 ?_
      refine VE_goto 166 dX5_copy_224 ?_
      exact VE_sub [2, 3, 4, 5, 6, 7, 8, 9, 0] rfl ((h.2 c1).2 c2).2.2
theorem dX5_begins_0 : decode cX5_begins 0 = .ok (.aload_n 0, 1) := by decide +kernel
theorem dX5_begins_1 : decode cX5_begins 1 = .ok (.bipush 31, 2) := by decide +kernel
theorem dX5_begins_3 : decode cX5_begins 3 = .ok (.aload_n 0, 1) := by decide +kernel
theorem dX5_begins_4 : decode cX5_begins 4 = .ok (.getfield 182, 3) := by decide +kernel
theorem dX5_begins_7 : decode cX5_begins 7 = .ok (.imul, 1) := by decide +kernel
theorem dX5_begins_8 : decode cX5_begins 8 = .ok (.iload_n 1, 1) := by decide +kernel
theorem dX5_begins_9 : decode cX5_begins 9 = .ok (.iadd, 1) := by decide +kernel
theorem dX5_begins_10 : decode cX5_begins 10 = .ok (.putfield 182, 3) := by decide +kernel
theorem dX5_begins_13 : decode cX5_begins 13 = .ok (.return_, 1) := by decide +kernel
set_option maxRecDepth 20000 in
theorem S_X5_begins_0 {g : GG} {d : Nat} {F : St → Prop} (a1 : Int32) (σ : St) (h : F (sU σ 23 1 ((31 * (σ 23 1)) + a1))) : VM g d M_X5_begins (qV F) 0 [(0, vR 23), (1, vI a1)] [] σ := by
  refine VE_aload_n 0 dX5_begins_0 (k := ?_)
  refine VE_bipush 31 dX5_begins_1 (k := ?_)
  refine VE_aload_n 0 dX5_begins_3 (k := ?_)
  refine VE_getI dX5_begins_4 fl_X5_182 ?_
  refine VE_imul dX5_begins_7 ?_
  refine VE_iload_n 1 dX5_begins_8 (k := ?_)
  refine VE_iadd dX5_begins_9 ?_
  refine VE_put dX5_begins_10 fl_X5_182 ?_
  exact VM_vret dX5_begins_13 h
theorem dX5_tell_0 : decode cX5_tell 0 = .ok (.aload_n 0, 1) := by decide +kernel
theorem dX5_tell_1 : decode cX5_tell 1 = .ok (.iload_n 1, 1) := by decide +kernel
theorem dX5_tell_2 : decode cX5_tell 2 = .ok (.invokevirtual 100, 3) := by decide +kernel
theorem dX5_tell_5 : decode cX5_tell 5 = .ok (.ifCond .ne 5, 3) := by decide +kernel
theorem dX5_tell_8 : decode cX5_tell 8 = .ok (.iconst (-1), 1) := by decide +kernel
theorem dX5_tell_9 : decode cX5_tell 9 = .ok (.ireturn, 1) := by decide +kernel
theorem dX5_tell_10 : decode cX5_tell 10 = .ok (.aload_n 0, 1) := by decide +kernel
theorem dX5_tell_11 : decode cX5_tell 11 = .ok (.getfield 22, 3) := by decide +kernel
theorem dX5_tell_14 : decode cX5_tell 14 = .ok (.iload_n 1, 1) := by decide +kernel
theorem dX5_tell_15 : decode cX5_tell 15 = .ok (.iaload, 1) := by decide +kernel
theorem dX5_tell_16 : decode cX5_tell 16 = .ok (.istore_n 2, 1) := by decide +kernel
theorem dX5_tell_17 : decode cX5_tell 17 = .ok (.aload_n 0, 1) := by decide +kernel
theorem dX5_tell_18 : decode cX5_tell 18 = .ok (.getfield 19, 3) := by decide +kernel
theorem dX5_tell_21 : decode cX5_tell 21 = .ok (.iload_n 1, 1) := by decide +kernel
theorem dX5_tell_22 : decode cX5_tell 22 = .ok (.iaload, 1) := by decide +kernel
theorem dX5_tell_23 : decode cX5_tell 23 = .ok (.lookupswitch 67 #[(1, 25), (2, 40)], 25) := by decide +kernel
theorem dX5_tell_48 : decode cX5_tell 48 = .ok (.aload_n 0, 1) := by decide +kernel
theorem dX5_tell_49 : decode cX5_tell 49 = .ok (.iconst 2, 1) := by decide +kernel
theorem dX5_tell_50 : decode cX5_tell 50 = .ok (.invokevirtual 185, 3) := by decide +kernel
theorem dX5_tell_53 : decode cX5_tell 53 = .ok (.aload_n 0, 1) := by decide +kernel
theorem dX5_tell_54 : decode cX5_tell 54 = .ok (.iconst 1, 1) := by decide +kernel
theorem dX5_tell_55 : decode cX5_tell 55 = .ok (.invokevirtual 185, 3) := by decide +kernel
theorem dX5_tell_58 : decode cX5_tell 58 = .ok (.iload_n 2, 1) := by decide +kernel
theorem dX5_tell_59 : decode cX5_tell 59 = .ok (.bipush 100, 2) := by decide +kernel
theorem dX5_tell_61 : decode cX5_tell 61 = .ok (.iadd, 1) := by decide +kernel
theorem dX5_tell_62 : decode cX5_tell 62 = .ok (.ireturn, 1) := by decide +kernel
theorem dX5_tell_63 : decode cX5_tell 63 = .ok (.aload_n 0, 1) := by decide +kernel
theorem dX5_tell_64 : decode cX5_tell 64 = .ok (.iconst 3, 1) := by decide +kernel
theorem dX5_tell_65 : decode cX5_tell 65 = .ok (.invokevirtual 185, 3) := by decide +kernel
theorem dX5_tell_68 : decode cX5_tell 68 = .ok (.aload_n 0, 1) := by decide +kernel
theorem dX5_tell_69 : decode cX5_tell 69 = .ok (.iconst 2, 1) := by decide +kernel
theorem dX5_tell_70 : decode cX5_tell 70 = .ok (.invokevirtual 185, 3) := by decide +kernel
theorem dX5_tell_73 : decode cX5_tell 73 = .ok (.aload_n 0, 1) := by decide +kernel
theorem dX5_tell_74 : decode cX5_tell 74 = .ok (.iconst 1, 1) := by decide +kernel
theorem dX5_tell_75 : decode cX5_tell 75 = .ok (.invokevirtual 185, 3) := by decide +kernel
theorem dX5_tell_78 : decode cX5_tell 78 = .ok (.aload_n 0, 1) := by decide +kernel
theorem dX5_tell_79 : decode cX5_tell 79 = .ok (.iconst 1, 1) := by decide +kernel
theorem dX5_tell_80 : decode cX5_tell 80 = .ok (.invokevirtual 185, 3) := by decide +kernel
theorem dX5_tell_83 : decode cX5_tell 83 = .ok (.iconst 2, 1) := by decide +kernel
theorem dX5_tell_84 : decode cX5_tell 84 = .ok (.iload_n 2, 1) := by decide +kernel
theorem dX5_tell_85 : decode cX5_tell 85 = .ok (.imul, 1) := by decide +kernel
theorem dX5_tell_86 : decode cX5_tell 86 = .ok (.bipush 100, 2) := by decide +kernel
theorem dX5_tell_88 : decode cX5_tell 88 = .ok (.iadd, 1) := by decide +kernel
theorem dX5_tell_89 : decode cX5_tell 89 = .ok (.ireturn, 1) := by decide +kernel
theorem dX5_tell_90 : decode cX5_tell 90 = .ok (.aload_n 0, 1) := by decide +kernel
theorem dX5_tell_91 : decode cX5_tell 91 = .ok (.iconst 1, 1) := by decide +kernel
theorem dX5_tell_92 : decode cX5_tell 92 = .ok (.invokevirtual 185, 3) := by decide +kernel
theorem dX5_tell_95 : decode cX5_tell 95 = .ok (.iload_n 2, 1) := by decide +kernel
theorem dX5_tell_96 : decode cX5_tell 96 = .ok (.ireturn, 1) := by decide +kernel
set_option maxRecDepth 20000 in
theorem S_X5_tell_0 {g : GG} {d : Nat} {F : Int32 → St → Prop} (a1 : Int32) (σ : St) (h : (ME g d M_X5_isHead [vR 23, vI a1] σ (qI (fun r1 σ2 => ((¬ r1 = 0 → (vp_in a1 5 ∧ (((σ2 27 a1.toNatClampNeg) = 1 → (ME g d M_X5_begins [vR 23, vI 2] σ2 (qV (fun σ8 => (ME g d M_X5_begins [vR 23, vI 1] σ8 (qV (fun σ11 => F ((σ2 28 a1.toNatClampNeg) + 100) σ11))))))) ∧ (¬ (σ2 27 a1.toNatClampNeg) = 1 → (((σ2 27 a1.toNatClampNeg) = 2 → (ME g d M_X5_begins [vR 23, vI 3] σ2 (qV (fun σ14 => (ME g d M_X5_begins [vR 23, vI 2] σ14 (qV (fun σ17 => (ME g d M_X5_begins [vR 23, vI 1] σ17 (qV (fun σ20 => (ME g d M_X5_begins [vR 23, vI 1] σ20 (qV (fun σ23 => F ((2 * (σ2 28 a1.toNatClampNeg)) + 100) σ23))))))))))))) ∧ (¬ (σ2 27 a1.toNatClampNeg) = 2 → (ME g d M_X5_begins [vR 23, vI 1] σ2 (qV (fun σ26 => F (σ2 28 a1.toNatClampNeg) σ26))))))))) ∧ (r1 = 0 → F (-1) σ2)))))) : VM g (d + 1) M_X5_tell (qI F) 0 [(0, vR 23), (1, vI a1)] [] σ := by
  refine VE_aload_n 0 dX5_tell_0 (k := ?_)
  refine VE_iload_n 1 dX5_tell_1 (k := ?_)
  refine VE_cVi [vI a1] dX5_tell_2 ml_X5_100 h (fun r1 σ2 h3 => ?_) (rok_D d)
  refine VE_if_ne 10 dX5_tell_5 (fun c4 => ?_) (fun c4 => ?_)
  · refine VE_aload_n 0 dX5_tell_10 (k := ?_)
    refine VE_getR 28 dX5_tell_11 fl_X5_22 ?_
    refine VE_iload_n 1 dX5_tell_14 (k := ?_)
    refine VE_iald dX5_tell_15 (h3.1 c4).1 ?_
    refine VE_istore_n (ls' := [(2, vI (σ2 28 a1.toNatClampNeg)), (0, vR 23), (1, vI a1)]) dX5_tell_16 ?_
    refine VE_aload_n 1 dX5_tell_17 (k := ?_)
    refine VE_getR 27 dX5_tell_18 fl_X5_19 ?_
    refine VE_iload_n 2 dX5_tell_21 (k := ?_)
    refine VE_iald dX5_tell_22 (h3.1 c4).1 ?_
    by_cases c5 : (σ2 27 a1.toNatClampNeg) = 1
    · refine VE_lookup (off := 25) 48 dX5_tell_23 (by decide) (by rw [c5]; first | done | rfl) ?_
      refine VE_aload_n 1 dX5_tell_48 (k := ?_)
      refine VE_iconst 2 dX5_tell_49 (k := ?_)
      refine VE_cVv [vI 2] dX5_tell_50 ml_X5_185 ((h3.1 c4).2.1 c5) (fun σ8 h9 => ?_) (rok_D d)
      refine VE_aload_n 1 dX5_tell_53 (k := ?_)
      refine VE_iconst 1 dX5_tell_54 (k := ?_)
      refine VE_cVv [vI 1] dX5_tell_55 ml_X5_185 h9 (fun σ11 h12 => ?_) (rok_D d)
      refine VE_iload_n 0 dX5_tell_58 (k := ?_)
      refine VE_bipush 100 dX5_tell_59 (k := ?_)
      refine VE_iadd dX5_tell_61 ?_
      exact VM_iret dX5_tell_62 h12
    · by_cases c6 : (σ2 27 a1.toNatClampNeg) = 2
      · refine VE_lookup (off := 40) 63 dX5_tell_23 (by decide) (by rw [c6]; first | done | rfl) ?_
        refine VE_aload_n 1 dX5_tell_63 (k := ?_)
        refine VE_iconst 3 dX5_tell_64 (k := ?_)
        refine VE_cVv [vI 3] dX5_tell_65 ml_X5_185 (((h3.1 c4).2.2 c5).1 c6) (fun σ14 h15 => ?_) (rok_D d)
        refine VE_aload_n 1 dX5_tell_68 (k := ?_)
        refine VE_iconst 2 dX5_tell_69 (k := ?_)
        refine VE_cVv [vI 2] dX5_tell_70 ml_X5_185 h15 (fun σ17 h18 => ?_) (rok_D d)
        refine VE_aload_n 1 dX5_tell_73 (k := ?_)
        refine VE_iconst 1 dX5_tell_74 (k := ?_)
        refine VE_cVv [vI 1] dX5_tell_75 ml_X5_185 h18 (fun σ20 h21 => ?_) (rok_D d)
        refine VE_aload_n 1 dX5_tell_78 (k := ?_)
        refine VE_iconst 1 dX5_tell_79 (k := ?_)
        refine VE_cVv [vI 1] dX5_tell_80 ml_X5_185 h21 (fun σ23 h24 => ?_) (rok_D d)
        refine VE_iconst 2 dX5_tell_83 (k := ?_)
        refine VE_iload_n 0 dX5_tell_84 (k := ?_)
        refine VE_imul dX5_tell_85 ?_
        refine VE_bipush 100 dX5_tell_86 (k := ?_)
        refine VE_iadd dX5_tell_88 ?_
        exact VM_iret dX5_tell_89 h24
      · refine VE_lookup (off := 67) 90 dX5_tell_23 (by decide) ((lv_osw c5 rfl).trans (lv_osw c6 rfl)) ?_
        refine VE_aload_n 1 dX5_tell_90 (k := ?_)
        refine VE_iconst 1 dX5_tell_91 (k := ?_)
        refine VE_cVv [vI 1] dX5_tell_92 ml_X5_185 (((h3.1 c4).2.2 c5).2 c6) (fun σ26 h27 => ?_) (rok_D d)
        refine VE_iload_n 0 dX5_tell_95 (k := ?_)
        exact VM_iret dX5_tell_96 h27
  · refine VE_iconst (-1) dX5_tell_8 (k := ?_)
    exact VM_iret dX5_tell_9 (h3.2 c4)
theorem dX5_greet_0 : decode cX5_greet 0 = .ok (.aload_n 0, 1) := by decide +kernel
theorem dX5_greet_1 : decode cX5_greet 1 = .ok (.iload_n 1, 1) := by decide +kernel
theorem dX5_greet_2 : decode cX5_greet 2 = .ok (.invokevirtual 100, 3) := by decide +kernel
theorem dX5_greet_5 : decode cX5_greet 5 = .ok (.ifCond .ne 5, 3) := by decide +kernel
theorem dX5_greet_8 : decode cX5_greet 8 = .ok (.iconst (-1), 1) := by decide +kernel
theorem dX5_greet_9 : decode cX5_greet 9 = .ok (.ireturn, 1) := by decide +kernel
theorem dX5_greet_10 : decode cX5_greet 10 = .ok (.aload_n 0, 1) := by decide +kernel
theorem dX5_greet_11 : decode cX5_greet 11 = .ok (.aload_n 0, 1) := by decide +kernel
theorem dX5_greet_12 : decode cX5_greet 12 = .ok (.getfield 19, 3) := by decide +kernel
theorem dX5_greet_15 : decode cX5_greet 15 = .ok (.iload_n 1, 1) := by decide +kernel
theorem dX5_greet_16 : decode cX5_greet 16 = .ok (.iaload, 1) := by decide +kernel
theorem dX5_greet_17 : decode cX5_greet 17 = .ok (.iconst 2, 1) := by decide +kernel
theorem dX5_greet_18 : decode cX5_greet 18 = .ok (.if_icmp .ne 7, 3) := by decide +kernel
theorem dX5_greet_21 : decode cX5_greet 21 = .ok (.iconst 5, 1) := by decide +kernel
theorem dX5_greet_22 : decode cX5_greet 22 = .ok (.goto 4, 3) := by decide +kernel
theorem dX5_greet_25 : decode cX5_greet 25 = .ok (.iconst 4, 1) := by decide +kernel
theorem dX5_greet_26 : decode cX5_greet 26 = .ok (.invokevirtual 185, 3) := by decide +kernel
theorem dX5_greet_29 : decode cX5_greet 29 = .ok (.aload_n 0, 1) := by decide +kernel
theorem dX5_greet_30 : decode cX5_greet 30 = .ok (.getfield 19, 3) := by decide +kernel
theorem dX5_greet_33 : decode cX5_greet 33 = .ok (.iload_n 1, 1) := by decide +kernel
theorem dX5_greet_34 : decode cX5_greet 34 = .ok (.iaload, 1) := by decide +kernel
theorem dX5_greet_35 : decode cX5_greet 35 = .ok (.iconst 2, 1) := by decide +kernel
theorem dX5_greet_36 : decode cX5_greet 36 = .ok (.if_icmp .ne 8, 3) := by decide +kernel
theorem dX5_greet_39 : decode cX5_greet 39 = .ok (.bipush 90, 2) := by decide +kernel
theorem dX5_greet_41 : decode cX5_greet 41 = .ok (.goto 4, 3) := by decide +kernel
theorem dX5_greet_44 : decode cX5_greet 44 = .ok (.iload_n 1, 1) := by decide +kernel
theorem dX5_greet_45 : decode cX5_greet 45 = .ok (.ireturn, 1) := by decide +kernel
set_option maxRecDepth 20000 in
theorem S_X5_greet_0 {g : GG} {d : Nat} {F : Int32 → St → Prop} (a1 : Int32) (σ : St) (h : (ME g d M_X5_isHead [vR 23, vI a1] σ (qI (fun r1 σ2 => ((¬ r1 = 0 → (vp_in a1 5 ∧ ((¬ (σ2 27 a1.toNatClampNeg) = 2 → (ME g d M_X5_begins [vR 23, vI 4] σ2 (qV (fun σ7 => ((¬ (σ7 27 a1.toNatClampNeg) = 2 → F a1 σ7) ∧ ((σ7 27 a1.toNatClampNeg) = 2 → F 90 σ7)))))) ∧ ((σ2 27 a1.toNatClampNeg) = 2 → (ME g d M_X5_begins [vR 23, vI 5] σ2 (qV (fun σ11 => ((¬ (σ11 27 a1.toNatClampNeg) = 2 → F a1 σ11) ∧ ((σ11 27 a1.toNatClampNeg) = 2 → F 90 σ11))))))))) ∧ (r1 = 0 → F (-1) σ2)))))) : VM g (d + 1) M_X5_greet (qI F) 0 [(0, vR 23), (1, vI a1)] [] σ := by
  refine VE_aload_n 0 dX5_greet_0 (k := ?_)
  refine VE_iload_n 1 dX5_greet_1 (k := ?_)
  refine VE_cVi [vI a1] dX5_greet_2 ml_X5_100 h (fun r1 σ2 h3 => ?_) (rok_D d)
  refine VE_if_ne 10 dX5_greet_5 (fun c4 => ?_) (fun c4 => ?_)
  · refine VE_aload_n 0 dX5_greet_10 (k := ?_)
    refine VE_aload_n 0 dX5_greet_11 (k := ?_)
    refine VE_getR 27 dX5_greet_12 fl_X5_19 ?_
    refine VE_iload_n 1 dX5_greet_15 (k := ?_)
    refine VE_iald dX5_greet_16 (h3.1 c4).1 ?_
    refine VE_iconst 2 dX5_greet_17 (k := ?_)
    refine VE_icmp_ne 25 dX5_greet_18 (fun c5 => ?_) (fun c5 => ?_)
    · refine VE_iconst 4 dX5_greet_25 (k := ?_)
      refine VE_cVv [vI 4] dX5_greet_26 ml_X5_185 ((h3.1 c4).2.1 c5) (fun σ7 h8 => ?_) (rok_D d)
      refine VE_aload_n 0 dX5_greet_29 (k := ?_)
      refine VE_getR 27 dX5_greet_30 fl_X5_19 ?_
      refine VE_iload_n 1 dX5_greet_33 (k := ?_)
      refine VE_iald dX5_greet_34 (h3.1 c4).1 ?_
      refine VE_iconst 2 dX5_greet_35 (k := ?_)
      refine VE_icmp_ne 44 dX5_greet_36 (fun c9 => ?_) (fun c9 => ?_)
      · refine VE_iload_n 1 dX5_greet_44 (k := ?_)
        exact VM_iret dX5_greet_45 (h8.1 c9)
      · refine VE_bipush 90 dX5_greet_39 (k := ?_)
        refine VE_goto 45 dX5_greet_41 ?_
        exact VM_iret dX5_greet_45 (h8.2 c9)
    · refine VE_iconst 5 dX5_greet_21 (k := ?_)
      refine VE_goto 26 dX5_greet_22 ?_
      refine VE_cVv [vI 5] dX5_greet_26 ml_X5_185 ((h3.1 c4).2.2 c5) (fun σ11 h12 => ?_) (rok_D d)
      refine VE_aload_n 0 dX5_greet_29 (k := ?_)
      refine VE_getR 27 dX5_greet_30 fl_X5_19 ?_
      refine VE_iload_n 1 dX5_greet_33 (k := ?_)
      refine VE_iald dX5_greet_34 (h3.1 c4).1 ?_
      refine VE_iconst 2 dX5_greet_35 (k := ?_)
      refine VE_icmp_ne 44 dX5_greet_36 (fun c13 => ?_) (fun c13 => ?_)
      · refine VE_iload_n 1 dX5_greet_44 (k := ?_)
        exact VM_iret dX5_greet_45 (h12.1 c13)
      · refine VE_bipush 90 dX5_greet_39 (k := ?_)
        refine VE_goto 45 dX5_greet_41 ?_
        exact VM_iret dX5_greet_45 (h12.2 c13)
  · refine VE_iconst (-1) dX5_greet_8 (k := ?_)
    exact VM_iret dX5_greet_9 (h3.2 c4)
theorem dX5_as_0 : decode cX5_as 0 = .ok (.aload_n 0, 1) := by decide +kernel
theorem dX5_as_1 : decode cX5_as 1 = .ok (.iconst 0, 1) := by decide +kernel
theorem dX5_as_2 : decode cX5_as 2 = .ok (.putfield 49, 3) := by decide +kernel
theorem dX5_as_5 : decode cX5_as 5 = .ok (.aload_n 0, 1) := by decide +kernel
theorem dX5_as_6 : decode cX5_as 6 = .ok (.iload_n 1, 1) := by decide +kernel
theorem dX5_as_7 : decode cX5_as 7 = .ok (.invokevirtual 100, 3) := by decide +kernel
theorem dX5_as_10 : decode cX5_as 10 = .ok (.ifCond .ne 5, 3) := by decide +kernel
theorem dX5_as_13 : decode cX5_as 13 = .ok (.iconst (-1), 1) := by decide +kernel
theorem dX5_as_14 : decode cX5_as 14 = .ok (.ireturn, 1) := by decide +kernel
theorem dX5_as_15 : decode cX5_as 15 = .ok (.iload_n 2, 1) := by decide +kernel
theorem dX5_as_16 : decode cX5_as 16 = .ok (.iconst 0, 1) := by decide +kernel
theorem dX5_as_17 : decode cX5_as 17 = .ok (.iconst 2, 1) := by decide +kernel
theorem dX5_as_18 : decode cX5_as 18 = .ok (.invokestatic 55, 3) := by decide +kernel
theorem dX5_as_21 : decode cX5_as 21 = .ok (.ifCond .ne 6, 3) := by decide +kernel
theorem dX5_as_24 : decode cX5_as 24 = .ok (.bipush (-2), 2) := by decide +kernel
theorem dX5_as_26 : decode cX5_as 26 = .ok (.ireturn, 1) := by decide +kernel
theorem dX5_as_27 : decode cX5_as 27 = .ok (.aload_n 0, 1) := by decide +kernel
theorem dX5_as_28 : decode cX5_as 28 = .ok (.getfield 19, 3) := by decide +kernel
theorem dX5_as_31 : decode cX5_as 31 = .ok (.iload_n 1, 1) := by decide +kernel
theorem dX5_as_32 : decode cX5_as 32 = .ok (.iaload, 1) := by decide +kernel
theorem dX5_as_33 : decode cX5_as 33 = .ok (.iload_n 2, 1) := by decide +kernel
theorem dX5_as_34 : decode cX5_as 34 = .ok (.if_icmp .lt 7, 3) := by decide +kernel
theorem dX5_as_37 : decode cX5_as 37 = .ok (.iconst 1, 1) := by decide +kernel
theorem dX5_as_38 : decode cX5_as 38 = .ok (.goto 8, 3) := by decide +kernel
theorem dX5_as_41 : decode cX5_as 41 = .ok (.aload_n 0, 1) := by decide +kernel
theorem dX5_as_42 : decode cX5_as 42 = .ok (.iconst 2, 1) := by decide +kernel
theorem dX5_as_43 : decode cX5_as 43 = .ok (.invokevirtual 76, 3) := by decide +kernel
theorem dX5_as_46 : decode cX5_as 46 = .ok (.ireturn, 1) := by decide +kernel
set_option maxRecDepth 20000 in
theorem S_X5_as_0 {g : GG} {d : Nat} {F : Int32 → St → Prop} (a1 : Int32) (a2 : Int32) (σ : St) (h : (ME g d M_X5_isHead [vR 23, vI a1] (sU σ 23 0 0) (qI (fun r1 σ2 => ((¬ r1 = 0 → (ME g d M_X5_within [vI a2, vI 0, vI 2] σ2 (qI (fun r5 σ6 => ((¬ r5 = 0 → (vp_in a1 5 ∧ (((σ6 27 a1.toNatClampNeg) < a2 → (ME g d M_X5_fails [vR 23, vI 2] σ6 (qI (fun r10 σ11 => F r10 σ11)))) ∧ (¬ (σ6 27 a1.toNatClampNeg) < a2 → F 1 σ6)))) ∧ (r5 = 0 → F (-2) σ6)))))) ∧ (r1 = 0 → F (-1) σ2)))))) : VM g (d + 1) M_X5_as (qI F) 0 [(0, vR 23), (1, vI a1), (2, vI a2)] [] σ := by
  refine VE_aload_n 0 dX5_as_0 (k := ?_)
  refine VE_iconst 0 dX5_as_1 (k := ?_)
  refine VE_put dX5_as_2 fl_X5_49 ?_
  refine VE_aload_n 0 dX5_as_5 (k := ?_)
  refine VE_iload_n 1 dX5_as_6 (k := ?_)
  refine VE_cVi [vI a1] dX5_as_7 ml_X5_100 h (fun r1 σ2 h3 => ?_) (rok_D d)
  refine VE_if_ne 15 dX5_as_10 (fun c4 => ?_) (fun c4 => ?_)
  · refine VE_iload_n 2 dX5_as_15 (k := ?_)
    refine VE_iconst 0 dX5_as_16 (k := ?_)
    refine VE_iconst 2 dX5_as_17 (k := ?_)
    refine VE_cSi [vI a2, vI 0, vI 2] dX5_as_18 ml_X5_55 (h3.1 c4) (fun r5 σ6 h7 => ?_) (rok_D d)
    refine VE_if_ne 27 dX5_as_21 (fun c8 => ?_) (fun c8 => ?_)
    · refine VE_aload_n 0 dX5_as_27 (k := ?_)
      refine VE_getR 27 dX5_as_28 fl_X5_19 ?_
      refine VE_iload_n 1 dX5_as_31 (k := ?_)
      refine VE_iald dX5_as_32 (h7.1 c8).1 ?_
      refine VE_iload_n 2 dX5_as_33 (k := ?_)
      refine VE_icmp_lt 41 dX5_as_34 (fun c9 => ?_) (fun c9 => ?_)
      · refine VE_aload_n 0 dX5_as_41 (k := ?_)
        refine VE_iconst 2 dX5_as_42 (k := ?_)
        refine VE_cVi [vI 2] dX5_as_43 ml_X5_76 ((h7.1 c8).2.1 c9) (fun r10 σ11 h12 => ?_) (rok_D d)
        exact VM_iret dX5_as_46 h12
      · refine VE_iconst 1 dX5_as_37 (k := ?_)
        refine VE_goto 46 dX5_as_38 ?_
        exact VM_iret dX5_as_46 ((h7.1 c8).2.2 c9)
    · refine VE_bipush (-2) dX5_as_24 (k := ?_)
      exact VM_iret dX5_as_26 (h7.2 c8)
  · refine VE_iconst (-1) dX5_as_13 (k := ?_)
    exact VM_iret dX5_as_14 (h3.2 c4)
theorem dX5_trace_0 : decode cX5_trace 0 = .ok (.aload_n 0, 1) := by decide +kernel
theorem dX5_trace_1 : decode cX5_trace 1 = .ok (.getfield 182, 3) := by decide +kernel
theorem dX5_trace_4 : decode cX5_trace 4 = .ok (.ireturn, 1) := by decide +kernel
set_option maxRecDepth 20000 in
theorem S_X5_trace_0 {g : GG} {d : Nat} {F : Int32 → St → Prop}  (σ : St) (h : F (σ 23 1) σ) : VM g d M_X5_trace (qI F) 0 [(0, vR 23)] [] σ := by
  refine VE_aload_n 0 dX5_trace_0 (k := ?_)
  refine VE_getI dX5_trace_1 fl_X5_182 ?_
  exact VM_iret dX5_trace_4 h
theorem dX5_fault_0 : decode cX5_fault 0 = .ok (.aload_n 0, 1) := by decide +kernel
theorem dX5_fault_1 : decode cX5_fault 1 = .ok (.getfield 49, 3) := by decide +kernel
theorem dX5_fault_4 : decode cX5_fault 4 = .ok (.ireturn, 1) := by decide +kernel
set_option maxRecDepth 20000 in
theorem S_X5_fault_0 {g : GG} {d : Nat} {F : Int32 → St → Prop}  (σ : St) (h : F (σ 23 0) σ) : VM g d M_X5_fault (qI F) 0 [(0, vR 23)] [] σ := by
  refine VE_aload_n 0 dX5_fault_0 (k := ?_)
  refine VE_getI dX5_fault_1 fl_X5_49 ?_
  exact VM_iret dX5_fault_4 h
theorem dX5_many_0 : decode cX5_many 0 = .ok (.iload_n 1, 1) := by decide +kernel
theorem dX5_many_1 : decode cX5_many 1 = .ok (.ifCond .ne 10, 3) := by decide +kernel
theorem dX5_many_4 : decode cX5_many 4 = .ok (.aload_n 0, 1) := by decide +kernel
theorem dX5_many_5 : decode cX5_many 5 = .ok (.getfield 59, 3) := by decide +kernel
theorem dX5_many_8 : decode cX5_many 8 = .ok (.goto 17, 3) := by decide +kernel
theorem dX5_many_11 : decode cX5_many 11 = .ok (.iload_n 1, 1) := by decide +kernel
theorem dX5_many_12 : decode cX5_many 12 = .ok (.iconst 1, 1) := by decide +kernel
theorem dX5_many_13 : decode cX5_many 13 = .ok (.if_icmp .ne 10, 3) := by decide +kernel
theorem dX5_many_16 : decode cX5_many 16 = .ok (.aload_n 0, 1) := by decide +kernel
theorem dX5_many_17 : decode cX5_many 17 = .ok (.getfield 86, 3) := by decide +kernel
theorem dX5_many_20 : decode cX5_many 20 = .ok (.goto 5, 3) := by decide +kernel
theorem dX5_many_23 : decode cX5_many 23 = .ok (.bipush (-2), 2) := by decide +kernel
theorem dX5_many_25 : decode cX5_many 25 = .ok (.ireturn, 1) := by decide +kernel
set_option maxRecDepth 20000 in
theorem S_X5_many_0 {g : GG} {d : Nat} {F : Int32 → St → Prop} (a1 : Int32) (σ : St) (h : ((¬ a1 = 0 → ((¬ a1 = 1 → F (-2) σ) ∧ (a1 = 1 → F (σ 23 18) σ))) ∧ (a1 = 0 → F (σ 23 5) σ))) : VM g d M_X5_many (qI F) 0 [(0, vR 23), (1, vI a1)] [] σ := by
  refine VE_iload_n 1 dX5_many_0 (k := ?_)
  refine VE_if_ne 11 dX5_many_1 (fun c1 => ?_) (fun c1 => ?_)
  · refine VE_iload_n 1 dX5_many_11 (k := ?_)
    refine VE_iconst 1 dX5_many_12 (k := ?_)
    refine VE_icmp_ne 23 dX5_many_13 (fun c2 => ?_) (fun c2 => ?_)
    · refine VE_bipush (-2) dX5_many_23 (k := ?_)
      exact VM_iret dX5_many_25 ((h.1 c1).1 c2)
    · refine VE_aload_n 0 dX5_many_16 (k := ?_)
      refine VE_getI dX5_many_17 fl_X5_86 ?_
      refine VE_goto 25 dX5_many_20 ?_
      exact VM_iret dX5_many_25 ((h.1 c1).2 c2)
  · refine VE_aload_n 0 dX5_many_4 (k := ?_)
    refine VE_getI dX5_many_5 fl_X5_59 ?_
    refine VE_goto 25 dX5_many_8 ?_
    exact VM_iret dX5_many_25 (h.2 c1)
end
section
/-! numbers -/
theorem fa_lt (a b : Int32) : a < b ↔ a.toInt < b.toInt := Int32.lt_iff_toInt_lt
theorem fa_le (a b : Int32) : a ≤ b ↔ a.toInt ≤ b.toInt := Int32.le_iff_toInt_le
theorem fa_eq (a b : Int32) : a = b ↔ a.toInt = b.toInt := Int32.toInt_inj.symm
theorem fb_rng (x : Int32) : -2147483648 ≤ x.toInt ∧ x.toInt < 2147483648 := by
  have h1 := Int32.le_toInt x
  have h2 := Int32.toInt_lt x
  omega
theorem tA (x y : Int32) : (x + y).toInt = x.toInt + y.toInt ∨ (x + y).toInt = x.toInt + y.toInt - 4294967296 ∨ (x + y).toInt = x.toInt + y.toInt + 4294967296 := by
  have h1 := fb_rng x
  have h2 := fb_rng y
  have h3 := fb_rng (x + y)
  rw [Int32.toInt_add] at h3 ⊢
  rw [Int.bmod_def] at h3 ⊢
  omega
theorem tS (x y : Int32) : (x - y).toInt = x.toInt - y.toInt ∨ (x - y).toInt = x.toInt - y.toInt - 4294967296 ∨ (x - y).toInt = x.toInt - y.toInt + 4294967296 := by
  have h1 := fb_rng x
  have h2 := fb_rng y
  have h3 := fb_rng (x - y)
  rw [Int32.toInt_sub] at h3 ⊢
  rw [Int.bmod_def] at h3 ⊢
  omega
theorem tcl (x : Int32) : x.toNatClampNeg = x.toInt.toNat := rfl
theorem tm1 : (-1 : Int32).toInt = -1 := rfl
theorem tm2 : (-2 : Int32).toInt = -2 := rfl
theorem tm3 : (-3 : Int32).toInt = -3 := rfl
theorem tm4 : (-4 : Int32).toInt = -4 := rfl
theorem tm9 : (-9 : Int32).toInt = -9 := rfl
theorem tm10 : (-10 : Int32).toInt = -10 := rfl
theorem tm11 : (-11 : Int32).toInt = -11 := rfl
theorem tm12 : (-12 : Int32).toInt = -12 := rfl
theorem tm13 : (-13 : Int32).toInt = -13 := rfl
theorem tm14 : (-14 : Int32).toInt = -14 := rfl
theorem tm100 : (-100 : Int32).toInt = -100 := rfl
/-- a natural number below 2^31, as an int: its value (bounds by the side condition, for simp) -/
theorem nI_ti {n : Nat} : (nI n).toInt = (n : Int).bmod 4294967296 := by
  show (Int32.ofNat n).toInt = _
  rw [Int32.toInt_ofNat']
theorem nI_v {n : Nat} (h : n < 2147483648) : (nI n).toInt = n := nI_toInt (by omega)
theorem nI_x {x : Int32} (h : 0 ≤ x.toInt) : x = nI x.toInt.toNat := by
  rw [fa_eq, nI_v]
  · omega
  · have := fb_rng x
    omega
abbrev inR (x : Int32) (lo hi : Int) : Prop := lo ≤ x.toInt ∧ x.toInt ≤ hi
theorem inR_in {x : Int32} {hi : Int} {n : Nat} (h : inR x 0 hi) (hn : hi < n) : vp_in x n := by
  rw [vp_in_iff]
  omega
theorem tcl_lt {x : Int32} {hi : Int} {n : Nat} (h : inR x 0 hi) (hn : hi < n) : x.toNatClampNeg < n := vin_lt (inR_in h hn)
theorem cl_n (n : Nat) (h : n < 2147483648) : (nI n).toNatClampNeg = n := nI_clamp (by omega)
/-- branches on an answer that is 1 or 0 -/
theorem b1n {A B : Prop} (a : A) : ((¬ (1 : Int32) = 0 → A) ∧ ((1 : Int32) = 0 → B)) := ⟨fun _ => a, fun h => absurd h (by decide)⟩
theorem b1p {A B : Prop} (a : A) : (((1 : Int32) = 0 → B) ∧ (¬ (1 : Int32) = 0 → A)) := ⟨fun h => absurd h (by decide), fun _ => a⟩
theorem b0n {A B : Prop} (b : B) : ((¬ (0 : Int32) = 0 → A) ∧ ((0 : Int32) = 0 → B)) := ⟨fun h => absurd rfl h, fun _ => b⟩
theorem b0p {A B : Prop} (b : B) : (((0 : Int32) = 0 → B) ∧ (¬ (0 : Int32) = 0 → A)) := ⟨fun _ => b, fun h => absurd rfl h⟩
theorem brn {c A B : Prop} (h : ¬ c) (b : B) : (c → A) ∧ (¬ c → B) := ⟨fun q => absurd q h, fun _ => b⟩
theorem brt {c A B : Prop} (h : c) (a : A) : (c → A) ∧ (¬ c → B) := ⟨fun _ => a, fun q => absurd h q⟩
theorem brn' {c A B : Prop} (h : ¬ c) (b : B) : (¬ c → B) ∧ (c → A) := ⟨fun _ => b, fun q => absurd q h⟩
theorem brt' {c A B : Prop} (h : c) (a : A) : (¬ c → B) ∧ (c → A) := ⟨fun q => absurd h q, fun _ => a⟩
end
section
/-! small contracts: no loops -/
section SM
variable {g : GG} {d : Nat} {σ : St} {F : Int32 → St → Prop}
theorem m_isSheet {x : Int32} (h1 : inR x 0 3 → F 1 σ) (h0 : ¬ inR x 0 3 → F 0 σ) : ME g d M_X4_isSheet [vI x] σ (qI F) := by
  refine ME_of (S_X4_isSheet_0 x σ ⟨fun a => h0 ?_, fun a => ⟨fun b => h0 ?_, fun b => h1 ?_⟩⟩) <;> ((try simp only [fa_lt, fa_le, fa_eq, Int32.reduceToInt, tm1, tm2, tm3, tm4, tm9, tm10, tm11, tm12, tm13, tm14, tm100] at *); omega)
theorem m_isLane {x : Int32} (h1 : inR x 0 2 → F 1 σ) (h0 : ¬ inR x 0 2 → F 0 σ) : ME g d M_X4_isLane [vI x] σ (qI F) := by
  refine ME_of (S_X4_isLane_0 x σ ⟨fun a => h0 ?_, fun a => ⟨fun b => h0 ?_, fun b => h1 ?_⟩⟩) <;> ((try simp only [fa_lt, fa_le, fa_eq, Int32.reduceToInt, tm1, tm2, tm3, tm4, tm9, tm10, tm11, tm12, tm13, tm14, tm100] at *); omega)
theorem m_has {x : Int32} (h1 : inR x 0 ((σ 10 3).toInt - 1) → F 1 σ) (h0 : ¬ inR x 0 ((σ 10 3).toInt - 1) → F 0 σ) : ME g d M_X0_has [vR 10, vI x] σ (qI F) := by
  refine ME_of (S_X0_has_0 x σ ⟨fun a => h0 ?_, fun a => ⟨fun b => h0 ?_, fun b => h1 ?_⟩⟩) <;> ((try simp only [fa_lt, fa_le, fa_eq, Int32.reduceToInt, tm1, tm2, tm3, tm4, tm9, tm10, tm11, tm12, tm13, tm14, tm100] at *); omega)
theorem m_within {x lo hi : Int32} (h1 : inR x lo.toInt hi.toInt → F 1 σ) (h0 : ¬ inR x lo.toInt hi.toInt → F 0 σ) : ME g d M_X5_within [vI x, vI lo, vI hi] σ (qI F) := by
  refine ME_of (S_X5_within_0 x lo hi σ ⟨fun a => h0 ?_, fun a => ⟨fun b => h0 ?_, fun b => h1 ?_⟩⟩) <;> ((try simp only [fa_lt, fa_le, fa_eq, Int32.reduceToInt, tm1, tm2, tm3, tm4, tm9, tm10, tm11, tm12, tm13, tm14, tm100] at *); omega)
theorem m_isHead {x : Int32} (h1 : inR x 0 ((σ 23 5).toInt - 1) → F 1 σ) (h0 : ¬ inR x 0 ((σ 23 5).toInt - 1) → F 0 σ) : ME g d M_X5_isHead [vR 23, vI x] σ (qI F) := by
  refine ME_of (S_X5_isHead_0 x σ ⟨fun a => h0 ?_, fun a => ⟨fun b => h0 ?_, fun b => h1 ?_⟩⟩) <;> ((try simp only [fa_lt, fa_le, fa_eq, Int32.reduceToInt, tm1, tm2, tm3, tm4, tm9, tm10, tm11, tm12, tm13, tm14, tm100] at *); omega)
theorem m_isSheet5 {x : Int32} (h1 : inR x 0 3 → F 1 σ) (h0 : ¬ inR x 0 3 → F 0 σ) : ME g (d + 1) M_X5_isSheet [vI x] σ (qI F) := by
  refine ME_of (S_X5_isSheet_0 x σ (m_within (fun a => ⟨h1 a, Or.inr rfl⟩) (fun a => ⟨h0 a, Or.inl rfl⟩)))
theorem m_isSort {x : Int32} (h1 : inR x 0 2 → F 1 σ) (h0 : ¬ inR x 0 2 → F 0 σ) : ME g (d + 1) M_X5_isSort [vI x] σ (qI F) := by
  refine ME_of (S_X5_isSort_0 x σ (m_within (fun a => ⟨h1 a, Or.inr rfl⟩) (fun a => ⟨h0 a, Or.inl rfl⟩)))
theorem m_isNothing {k : Nat} (hk : k < 4) (h1 : (σ (2 + k) 2).toInt < 0 → F 1 σ) (h0 : 0 ≤ (σ (2 + k) 2).toInt → F 0 σ) : ME g d M_X3_isNothing [vR (2 + k)] σ (qI F) := by
  refine ME_of (S_X3_isNothing_0 hk σ ⟨fun a => h0 ?_, fun a => h1 ?_⟩) <;> ((try simp only [fa_lt, fa_le, fa_eq, Int32.reduceToInt, tm1, tm2, tm3, tm4, tm9, tm10, tm11, tm12, tm13, tm14, tm100] at *); omega)
/-- the cells i .. of a row of so many are there -/
abbrev hasC (len i n : Int32) : Prop := 0 ≤ i.toInt ∧ 0 ≤ n.toInt ∧ i.toInt + n.toInt ≤ len.toInt
theorem m_hasCells {k : Nat} (hk : k < 4) {i n : Int32} (h1 : hasC (σ (2 + k) 2) i n → F 1 σ) (h0 : ¬ hasC (σ (2 + k) 2) i n → F 0 σ) : ME g d M_X3_hasCells [vR (2 + k), vI i, vI n] σ (qI F) := by
  have t1 := tS (σ (2 + k) 2) i
  have t2 := fb_rng (σ (2 + k) 2)
  have t3 := fb_rng i
  have t4 := fb_rng n
  have t5 := fb_rng (σ (2 + k) 2 - i)
  refine ME_of (S_X3_hasCells_0 hk i n σ ⟨fun a => h0 ?_, fun a => ⟨fun b => h0 ?_, fun b => ⟨fun c => h0 ?_, fun c => ⟨fun d => h0 ?_, fun d => h1 ?_⟩⟩⟩⟩) <;> ((try simp only [fa_lt, fa_le, fa_eq, Int32.reduceToInt, tm1, tm2, tm3, tm4, tm9, tm10, tm11, tm12, tm13, tm14, tm100] at *); omega)
/-- which fault, of a row of lane ln and length len, taken as lane, from i on, n cells: 1 NULL, 2 CAST, 4 SIZE, 3 INDEX -/
def fcN (len ln lane i n : Int32) : Nat := if len.toInt < 0 then 1 else if ¬ ln = lane then 2 else if n.toInt < 0 then 4 else if ¬ hasC len i n then 3 else 0
def fcV (c : Nat) : Int32 := match c with
  | 0 => 0
  | 1 => -11
  | 2 => -12
  | 3 => -13
  | _ => -14
theorem fcN_le (len ln lane i n : Int32) : fcN len ln lane i n ≤ 4 := by
  unfold fcN
  split
  · omega
  · split
    · omega
    · split
      · omega
      · split <;> omega
theorem m_faultOfCells {k : Nat} (hk : k < 4) {lane i n : Int32} (h : F (fcV (fcN (σ (2 + k) 2) (σ (2 + k) 1) lane i n)) σ) : ME g (d + 1) M_X3_faultOfCells [vR (2 + k), vI lane, vI i, vI n] σ (qI F) := by
  refine ME_of (S_X3_faultOfCells_0 hk lane i n σ (m_isNothing hk (fun a => b1p ?_) (fun a => b0p ⟨fun b => ⟨fun c => m_hasCells hk (fun e => b1p ?_) (fun e => b0p ?_), fun c => ?_⟩, fun b => ?_⟩)))
  · simpa [fcN, fcV, a] using h
  · have a' : ¬ (σ (2 + k) 2).toInt < 0 := by omega
    have c' : ¬ n.toInt < 0 := by ((try simp only [fa_lt, fa_le, fa_eq, Int32.reduceToInt, tm1, tm2, tm3, tm4, tm9, tm10, tm11, tm12, tm13, tm14, tm100] at *); omega)
    rw [fcN, if_neg a', if_neg (not_not_intro b), if_neg c', if_neg (not_not_intro e)] at h
    exact h
  · have a' : ¬ (σ (2 + k) 2).toInt < 0 := by omega
    have c' : ¬ n.toInt < 0 := by ((try simp only [fa_lt, fa_le, fa_eq, Int32.reduceToInt, tm1, tm2, tm3, tm4, tm9, tm10, tm11, tm12, tm13, tm14, tm100] at *); omega)
    rw [fcN, if_neg a', if_neg (not_not_intro b), if_neg c', if_pos e] at h
    exact h
  · have a' : ¬ (σ (2 + k) 2).toInt < 0 := by omega
    have c' : n.toInt < 0 := by ((try simp only [fa_lt, fa_le, fa_eq, Int32.reduceToInt, tm1, tm2, tm3, tm4, tm9, tm10, tm11, tm12, tm13, tm14, tm100] at *); omega)
    rw [fcN, if_neg a', if_neg (not_not_intro b), if_pos c'] at h
    exact h
  · have a' : ¬ (σ (2 + k) 2).toInt < 0 := by omega
    rw [fcN, if_neg a', if_pos b] at h
    exact h
/-- what the class notes of an answer -/
def ntV (r : Int32) : Int32 := if r.toInt < -10 then (-10) - r else 0
theorem m_noted {r : Int32} (h : F r (sU σ 0 7 (ntV r))) : ME g d M_X4_noted [vR 0, vI r] σ (qI F) := by
  refine ME_of (S_X4_noted_0 r σ ⟨fun a => ?_, fun a => ?_⟩)
  · rw [ntV, if_neg (by ((try simp only [fa_lt, fa_le, fa_eq, Int32.reduceToInt, tm1, tm2, tm3, tm4, tm9, tm10, tm11, tm12, tm13, tm14, tm100] at *); omega))] at h
    exact h
  · rw [ntV, if_pos (by ((try simp only [fa_lt, fa_le, fa_eq, Int32.reduceToInt, tm1, tm2, tm3, tm4, tm9, tm10, tm11, tm12, tm13, tm14, tm100] at *); omega))] at h
    exact h
/-- the class's trouble with cells -/
def tcV (σ : St) (k lane i n : Int32) : Int32 := if ¬ inR k 0 3 then -1 else if ¬ inR lane 0 2 then -2 else fcV (fcN (σ (2 + k.toNatClampNeg) 2) (σ (2 + k.toNatClampNeg) 1) lane i n)
theorem m_troubleOfCells {k lane i n : Int32} (h : F (tcV σ k lane i n) σ) : ME g (d + 2) M_X4_troubleOfCells [vR 0, vI k, vI lane, vI i, vI n] σ (qI F) := by
  refine ME_of (S_X4_troubleOfCells_0 k lane i n σ (m_isSheet (fun a => b1n (m_isLane (fun b => b1n ⟨inR_in a (by decide), m_faultOfCells (tcl_lt a (by decide)) ?_⟩) (fun b => b0n ?_))) (fun a => b0n ?_)))
  · rw [tcV, if_neg (not_not_intro a), if_neg (not_not_intro b)] at h
    exact h
  · rw [tcV, if_neg (not_not_intro a), if_pos b] at h
    exact h
  · rw [tcV, if_pos a] at h
    exact h
theorem m_fails {x : Int32} (h : F ((-10) - x) (sU σ 23 0 x)) : ME g d M_X5_fails [vR 23, vI x] σ (qI F) := ME_of (S_X5_fails_0 x σ h)
theorem m_lost {x : Int32} {G : Int64 → St → Prop} (h : G (-9223372036854775808) (sU σ 23 0 x)) : ME g d M_X5_lost [vR 23, vI x] σ (qL G) := ME_of (S_X5_lost_0 x σ h)
/-- LASTS -/
def lsV2 (kd w : Int32) : Int32 := if kd = 0 then w else if kd = 1 then w + 1 else 2 * (w + 1)
theorem m_lasting {kd w : Int32} (hk : inR kd 0 2) (h : F (lsV2 kd w) σ) : ME g d M_X4_lasting [vI kd, vI w] σ (qI F) := by
  refine ME_of (S_X4_lasting_0 kd w σ ⟨fun a => ⟨fun b => ?_, fun b => ?_⟩, fun a => ?_⟩)
  · rw [lsV2, if_pos (by ((try simp only [fa_lt, fa_le, fa_eq, Int32.reduceToInt, tm1, tm2, tm3, tm4, tm9, tm10, tm11, tm12, tm13, tm14, tm100] at *); omega))] at h
    exact h
  · rw [lsV2, if_neg (by ((try simp only [fa_lt, fa_le, fa_eq, Int32.reduceToInt, tm1, tm2, tm3, tm4, tm9, tm10, tm11, tm12, tm13, tm14, tm100] at *); omega)), if_pos b] at h
    exact h
  · rw [lsV2, if_neg (by ((try simp only [fa_lt, fa_le, fa_eq, Int32.reduceToInt, tm1, tm2, tm3, tm4, tm9, tm10, tm11, tm12, tm13, tm14, tm100] at *); omega)), if_neg (by ((try simp only [fa_lt, fa_le, fa_eq, Int32.reduceToInt, tm1, tm2, tm3, tm4, tm9, tm10, tm11, tm12, tm13, tm14, tm100] at *); omega))] at h
    exact h
theorem m_lasts {p : Int32} (hp : inR p 0 4) (h : F (lsV2 (σ 27 p.toNatClampNeg) (σ 28 p.toNatClampNeg)) σ) : ME g d M_X5_lasts [vR 23, vI p] σ (qI F) := by
  refine ME_of (S_X5_lasts_0 p σ ⟨inR_in hp (by decide), ⟨fun a => ⟨fun b => ?_, fun b => ?_⟩, fun a => ?_⟩⟩)
  · rw [lsV2, if_neg a, if_neg b] at h
    exact h
  · rw [lsV2, if_neg a, if_pos b] at h
    exact h
  · rw [lsV2, if_pos a] at h
    exact h
end SM
end
section
/-! the relation between the class's cells and the reference's -/
section TF
variable {g : GG} {d : Nat} {σ : St} {F : Int32 → St → Prop}
theorem isSheet_t {x : Int32} (h : inR x 0 3) (k : F 1 σ) : ME g d M_X4_isSheet [vI x] σ (qI F) := m_isSheet (fun _ => k) (fun a => absurd h a)
theorem isSheet_f {x : Int32} (h : ¬ inR x 0 3) (k : F 0 σ) : ME g d M_X4_isSheet [vI x] σ (qI F) := m_isSheet (fun a => absurd a h) (fun _ => k)
theorem isLane_t {x : Int32} (h : inR x 0 2) (k : F 1 σ) : ME g d M_X4_isLane [vI x] σ (qI F) := m_isLane (fun _ => k) (fun a => absurd h a)
theorem isLane_f {x : Int32} (h : ¬ inR x 0 2) (k : F 0 σ) : ME g d M_X4_isLane [vI x] σ (qI F) := m_isLane (fun a => absurd a h) (fun _ => k)
theorem isSheet5_t {x : Int32} (h : inR x 0 3) (k : F 1 σ) : ME g (d + 1) M_X5_isSheet [vI x] σ (qI F) := m_isSheet5 (fun _ => k) (fun a => absurd h a)
theorem isSheet5_f {x : Int32} (h : ¬ inR x 0 3) (k : F 0 σ) : ME g (d + 1) M_X5_isSheet [vI x] σ (qI F) := m_isSheet5 (fun a => absurd a h) (fun _ => k)
theorem isSort_t {x : Int32} (h : inR x 0 2) (k : F 1 σ) : ME g (d + 1) M_X5_isSort [vI x] σ (qI F) := m_isSort (fun _ => k) (fun a => absurd h a)
theorem isSort_f {x : Int32} (h : ¬ inR x 0 2) (k : F 0 σ) : ME g (d + 1) M_X5_isSort [vI x] σ (qI F) := m_isSort (fun a => absurd a h) (fun _ => k)
theorem within_t {x lo hi : Int32} (h : inR x lo.toInt hi.toInt) (k : F 1 σ) : ME g d M_X5_within [vI x, vI lo, vI hi] σ (qI F) := m_within (fun _ => k) (fun a => absurd h a)
theorem within_f {x lo hi : Int32} (h : ¬ inR x lo.toInt hi.toInt) (k : F 0 σ) : ME g d M_X5_within [vI x, vI lo, vI hi] σ (qI F) := m_within (fun a => absurd a h) (fun _ => k)
theorem has_t {x : Int32} {h : Nat} (h5 : h ≤ 5) (c : σ 10 3 = nI h) (hx : inR x 0 ((h : Int) - 1)) (k : F 1 σ) : ME g d M_X0_has [vR 10, vI x] σ (qI F) := m_has (fun _ => k) (fun a => absurd (by rw [c, nI_v (by omega)]; exact hx) a)
theorem has_f {x : Int32} {h : Nat} (h5 : h ≤ 5) (c : σ 10 3 = nI h) (hx : ¬ inR x 0 ((h : Int) - 1)) (k : F 0 σ) : ME g d M_X0_has [vR 10, vI x] σ (qI F) := m_has (fun a => absurd (by rw [c, nI_v (by omega)] at a; exact a) hx) (fun _ => k)
theorem isHead_t {x : Int32} {h : Nat} (h5 : h ≤ 5) (c : σ 23 5 = nI h) (hx : inR x 0 ((h : Int) - 1)) (k : F 1 σ) : ME g d M_X5_isHead [vR 23, vI x] σ (qI F) := m_isHead (fun _ => k) (fun a => absurd (by rw [c, nI_v (by omega)]; exact hx) a)
theorem isHead_f {x : Int32} {h : Nat} (h5 : h ≤ 5) (c : σ 23 5 = nI h) (hx : ¬ inR x 0 ((h : Int) - 1)) (k : F 0 σ) : ME g d M_X5_isHead [vR 23, vI x] σ (qI F) := m_isHead (fun a => absurd (by rw [c, nI_v (by omega)] at a; exact a) hx) (fun _ => k)
theorem isNothing_t {k : Nat} (hk : k < 4) (h : (σ (2 + k) 2).toInt < 0) (kk : F 1 σ) : ME g d M_X3_isNothing [vR (2 + k)] σ (qI F) := m_isNothing hk (fun _ => kk) (fun a => absurd h (by omega))
theorem isNothing_f {k : Nat} (hk : k < 4) (h : 0 ≤ (σ (2 + k) 2).toInt) (kk : F 0 σ) : ME g d M_X3_isNothing [vR (2 + k)] σ (qI F) := m_isNothing hk (fun a => absurd a (by omega)) (fun _ => kk)
theorem hasCells_t {k : Nat} (hk : k < 4) {i n : Int32} (h : hasC (σ (2 + k) 2) i n) (kk : F 1 σ) : ME g d M_X3_hasCells [vR (2 + k), vI i, vI n] σ (qI F) := m_hasCells hk (fun _ => kk) (fun a => absurd h a)
theorem hasCells_f {k : Nat} (hk : k < 4) {i n : Int32} (h : ¬ hasC (σ (2 + k) 2) i n) (kk : F 0 σ) : ME g d M_X3_hasCells [vR (2 + k), vI i, vI n] σ (qI F) := m_hasCells hk (fun a => absurd a h) (fun _ => kk)
end TF
/-- a SHEET: nothing, or a row of a lane and a length; its cells -/
def RS1 (σ : St) (k : Nat) : Prop := (σ (2 + k) 2 = -9 ∧ σ 24 k = -9) ∨ (inR (σ (2 + k) 2) 0 60 ∧ σ 25 k = σ (2 + k) 2 ∧ inR (σ (2 + k) 1) 0 2 ∧ σ 24 k = σ (2 + k) 1)
def RS (σ : St) : Prop := (∀ k, k < 4 → RS1 σ k) ∧ ∀ k i, k < 4 → i < 60 → σ (6 + k) i = σ 26 (60 * k + i)
def RC (σ : St) (h : Nat) : Prop := h ≤ 5 ∧ σ 10 3 = nI h ∧ σ 23 5 = nI h ∧ ∀ p, p < h → σ 11 p = σ 27 p ∧ σ 12 p = σ 28 p ∧ σ 13 p = σ 29 p ∧ inR (σ 11 p) 0 2 ∧ inR (σ 12 p) 1 9 ∧ inR (σ 13 p) 0 5
def RR (σ : St) (h n : Nat) : Prop := n ≤ 8 ∧ σ 18 3 = nI n ∧ σ 23 18 = nI n ∧ ∀ r, r < n → σ 19 r = σ 34 r ∧ σ 20 r = σ 35 r ∧ σ 21 r = σ 36 r ∧ inR (σ 19 r) 0 20 ∧ inR (σ 20 r) 0 ((h : Int) - 1)
def Rel (σ : St) : Prop := RS σ ∧ (∃ h n, RC σ h ∧ RR σ h n) ∧ σ 0 6 = σ 23 1 ∧ σ 0 7 = σ 23 0
theorem RS_fr {σ σ' : St} (h : RS σ) (e : ∀ a, (2 ≤ a ∧ a ≤ 9) ∨ (24 ≤ a ∧ a ≤ 26) → σ' a = σ a) : RS σ' := by
  refine ⟨fun k hk => ?_, fun k i hk hi => ?_⟩
  · have := h.1 k hk
    unfold RS1 at *
    rw [e (2 + k) (by omega), e 24 (by omega), e 25 (by omega)]
    exact this
  · rw [e (6 + k) (by omega), e 26 (by omega)]
    exact h.2 k i hk hi
theorem RC_fr {σ σ' : St} {h : Nat} (hC : RC σ h) (e1 : σ' 10 3 = σ 10 3) (e2 : σ' 23 5 = σ 23 5) (e : ∀ a, (11 ≤ a ∧ a ≤ 13) ∨ (27 ≤ a ∧ a ≤ 29) → σ' a = σ a) : RC σ' h := by
  obtain ⟨h1, h2, h3, h4⟩ := hC
  refine ⟨h1, e1.trans h2, e2.trans h3, fun p hp => ?_⟩
  rw [e 11 (by omega), e 12 (by omega), e 13 (by omega), e 27 (by omega), e 28 (by omega), e 29 (by omega)]
  exact h4 p hp
theorem RR_fr {σ σ' : St} {h n : Nat} (hC : RR σ h n) (e1 : σ' 18 3 = σ 18 3) (e2 : σ' 23 18 = σ 23 18) (e : ∀ a, (19 ≤ a ∧ a ≤ 21) ∨ (34 ≤ a ∧ a ≤ 36) → σ' a = σ a) : RR σ' h n := by
  obtain ⟨h1, h2, h3, h4⟩ := hC
  refine ⟨h1, e1.trans h2, e2.trans h3, fun p hp => ?_⟩
  rw [e 19 (by omega), e 20 (by omega), e 21 (by omega), e 34 (by omega), e 35 (by omega), e 36 (by omega)]
  exact h4 p hp
/-- both sides' notes of a fault, alike -/
theorem Rel_note {σ σ' : St} (h : Rel σ) (e : ∀ a, a ≠ 0 → a ≠ 23 → σ' a = σ a) (e0 : σ' 0 6 = σ 0 6) (e1 : σ' 23 1 = σ 23 1) (e5 : σ' 23 5 = σ 23 5) (e18 : σ' 23 18 = σ 23 18) (ef : σ' 0 7 = σ' 23 0) : Rel σ' := by
  obtain ⟨hS, ⟨hh, n, hC, hN⟩, hT, hF⟩ := h
  refine ⟨RS_fr hS (fun a ha => e a (by omega) (by omega)), ⟨hh, n, RC_fr hC (by rw [e 10 (by decide) (by decide)]) e5 (fun a ha => e a (by omega) (by omega)), RR_fr hN (by rw [e 18 (by decide) (by decide)]) e18 (fun a ha => e a (by omega) (by omega))⟩, by rw [e0, e1]; exact hT, ef⟩
/-- one call of both, in the law's order: equal answers, and the relation behind them -/
def Dbl (g : GG) (d : Nat) (Mc Mm : MD) (as : List MV) (σ : St) : Prop := ME g d Mc (vR 0 :: as) σ (qI fun r1 σ1 => ME g d Mm (vR 23 :: as) σ1 (qI fun r2 σ2 => r1 = r2 ∧ Rel σ2))
def DblL (g : GG) (d : Nat) (Mc Mm : MD) (as : List MV) (σ : St) : Prop := ME g d Mc (vR 0 :: as) σ (qL fun r1 σ1 => ME g d Mm (vR 23 :: as) σ1 (qL fun r2 σ2 => r1 = r2 ∧ Rel σ2))
section STEPS
variable {g : GG} {d : Nat} {σ : St}
theorem st_trace (hR : Rel σ) : Dbl g d M_X4_trace M_X5_trace [] σ := ME_of (S_X4_trace_0 σ (ME_of (S_X5_trace_0 σ ⟨hR.2.2.1, hR⟩)))
theorem st_fault (hR : Rel σ) : Dbl g d M_X4_fault M_X5_fault [] σ := ME_of (S_X4_fault_0 σ (ME_of (S_X5_fault_0 σ ⟨hR.2.2.2, hR⟩)))
theorem st_many (x : Int32) (hR : Rel σ) : Dbl g d M_X4_many M_X5_many [vI x] σ := by
  obtain ⟨h, n, hC, hN⟩ := hR.2.1
  refine ME_of (S_X4_many_0 x σ ⟨fun a => ?_, fun a => ⟨fun b => ?_, fun b => ?_⟩⟩)
  · exact ME_of (S_X5_many_0 x σ (brt' a ⟨by rw [hC.2.1, hC.2.2.1], hR⟩))
  · exact ME_of (S_X5_many_0 x σ (brn' a (brt' b ⟨by rw [hN.2.1, hN.2.2.1], hR⟩)))
  · exact ME_of (S_X5_many_0 x σ (brn' a (brn' b ⟨rfl, hR⟩)))
theorem st_ofHead (p w : Int32) (hR : Rel σ) : Dbl g (d + 1) M_X4_ofHead M_X5_ofHead [vI p, vI w] σ := by
  obtain ⟨h, n, hC, hN⟩ := hR.2.1
  obtain ⟨h5, c1, c2, hc⟩ := hC
  by_cases hp : inR p 0 ((h : Int) - 1)
  · have hi : vp_in p 5 := inR_in hp (by omega)
    obtain ⟨e1, e2, e3, e4, e5, e6⟩ := hc p.toNatClampNeg (by rw [tcl]; omega)
    refine ME_of (S_X4_ofHead_0 p w σ (has_t h5 c1 hp (b1n ⟨fun a => ⟨hi, ?_⟩, fun a => ⟨fun b => ⟨hi, ?_⟩, fun b => ⟨fun c => ⟨hi, ?_⟩, fun c => ⟨fun e => ⟨hi, m_lasting e4 ?_⟩, fun e => ?_⟩⟩⟩⟩)))
    · exact ME_of (S_X5_ofHead_0 p w σ (isHead_t h5 c2 hp (b1n (brt a ⟨hi, e1, hR⟩))))
    · exact ME_of (S_X5_ofHead_0 p w σ (isHead_t h5 c2 hp (b1n (brn a (brt b ⟨hi, e2, hR⟩)))))
    · exact ME_of (S_X5_ofHead_0 p w σ (isHead_t h5 c2 hp (b1n (brn a (brn b (brt c ⟨hi, e3, hR⟩))))))
    · exact ME_of (S_X5_ofHead_0 p w σ (isHead_t h5 c2 hp (b1n (brn a (brn b (brn c (brt e (m_lasts ⟨hp.1, by omega⟩ ⟨by rw [e1, e2], hR⟩))))))))
    · exact ME_of (S_X5_ofHead_0 p w σ (isHead_t h5 c2 hp (b1n (brn a (brn b (brn c (brn e ⟨rfl, hR⟩)))))))
  · exact ME_of (S_X4_ofHead_0 p w σ (has_f h5 c1 hp (b0n (ME_of (S_X5_ofHead_0 p w σ (isHead_f h5 c2 hp (b0n ⟨rfl, hR⟩)))))))
end STEPS
end
section
section HEADS
variable {g : GG} {d : Nat} {σ : St}
theorem Rel_wear {h n p : Nat} {v : Int32} (hR : Rel σ) (hC : RC σ h) (hN : RR σ h n) (hp : p < h) (hv : inR v 1 9) : Rel (sU (sU σ 12 p v) 28 p v) := by
  obtain ⟨h5, c1, c2, hc⟩ := hC
  refine ⟨RS_fr hR.1 (fun a ha => by rw [sU_o (by omega), sU_o (by omega)]), ⟨h, n, ⟨h5, c1, c2, fun q hq => ?_⟩, RR_fr hN rfl rfl (fun a ha => by rw [sU_o (by omega), sU_o (by omega)])⟩, hR.2.2.1, hR.2.2.2⟩
  obtain ⟨e1, e2, e3, e4, e5, e6⟩ := hc q hq
  by_cases hqp : q = p
  · subst hqp
    refine ⟨e1, ?_, e3, e4, ?_, e6⟩
    · simp [sU, upd]
    · simpa [sU, upd] using hv
  · refine ⟨e1, ?_, e3, e4, ?_, e6⟩
    · simp [sU, upd, hqp, e2]
    · simpa [sU, upd, hqp] using e5
theorem Rel_knows {h n p : Nat} {v : Int32} (hR : Rel σ) (hC : RC σ h) (hN : RR σ h n) (hp : p < h) (hv : inR v 0 5) : Rel (sU (sU σ 13 p v) 29 p v) := by
  obtain ⟨h5, c1, c2, hc⟩ := hC
  refine ⟨RS_fr hR.1 (fun a ha => by rw [sU_o (by omega), sU_o (by omega)]), ⟨h, n, ⟨h5, c1, c2, fun q hq => ?_⟩, RR_fr hN rfl rfl (fun a ha => by rw [sU_o (by omega), sU_o (by omega)])⟩, hR.2.2.1, hR.2.2.2⟩
  obtain ⟨e1, e2, e3, e4, e5, e6⟩ := hc q hq
  by_cases hqp : q = p
  · subst hqp
    refine ⟨e1, e2, ?_, e4, e5, ?_⟩
    · simp [sU, upd]
    · simpa [sU, upd] using hv
  · refine ⟨e1, e2, ?_, e4, e5, ?_⟩
    · simp [sU, upd, hqp, e3]
    · simpa [sU, upd, hqp] using e6
theorem st_wear (p v : Int32) (hR : Rel σ) : Dbl g (d + 1) M_X4_wear M_X5_wear [vI p, vI v] σ := by
  obtain ⟨h, n, hC, hN⟩ := hR.2.1
  obtain ⟨h5, c1, c2, hc⟩ := id hC
  by_cases hp : inR p 0 ((h : Int) - 1)
  · have hi : vp_in p 5 := inR_in hp (by omega)
    have hpl : p.toNatClampNeg < h := by rw [tcl]; omega
    obtain ⟨e1, e2, e3, e4, e5, e6⟩ := hc p.toNatClampNeg hpl
    by_cases hv : inR v 1 9
    · exact ME_of (S_X4_wear_0 p v σ (has_t h5 c1 hp (b1n (brn (by ((try simp only [fa_lt, fa_le, fa_eq, Int32.reduceToInt, tm1, tm2, tm3, tm4, tm9, tm10, tm11, tm12, tm13, tm14, tm100] at *); omega)) (brt (by ((try simp only [fa_lt, fa_le, fa_eq, Int32.reduceToInt, tm1, tm2, tm3, tm4, tm9, tm10, tm11, tm12, tm13, tm14, tm100] at *); omega)) ⟨hi, ME_of (S_X5_wear_0 p v _ (isHead_t h5 c2 hp (b1n (within_t hv (b1n ⟨hi, e2, Rel_wear hR hC hN hpl hv⟩)))))⟩)))))
    · have fin : ME g (d + 1) M_X5_wear [vR 23, vI p, vI v] σ (qI fun r2 σ2 => -2 = r2 ∧ Rel σ2) := ME_of (S_X5_wear_0 p v _ (isHead_t h5 c2 hp (b1n (within_f hv (b0n ⟨rfl, hR⟩)))))
      exact ME_of (S_X4_wear_0 p v σ (has_t h5 c1 hp (b1n ⟨fun a => fin, fun a => brn (by clear fin; ((try simp only [fa_lt, fa_le, fa_eq, Int32.reduceToInt, tm1, tm2, tm3, tm4, tm9, tm10, tm11, tm12, tm13, tm14, tm100] at *); omega)) fin⟩)))
  · exact ME_of (S_X4_wear_0 p v σ (has_f h5 c1 hp (b0n (ME_of (S_X5_wear_0 p v σ (isHead_f h5 c2 hp (b0n ⟨rfl, hR⟩)))))))
theorem st_knows (p v : Int32) (hR : Rel σ) : Dbl g (d + 1) M_X4_knows M_X5_knows [vI p, vI v] σ := by
  obtain ⟨h, n, hC, hN⟩ := hR.2.1
  obtain ⟨h5, c1, c2, hc⟩ := id hC
  by_cases hp : inR p 0 ((h : Int) - 1)
  · have hi : vp_in p 5 := inR_in hp (by omega)
    have hpl : p.toNatClampNeg < h := by rw [tcl]; omega
    obtain ⟨e1, e2, e3, e4, e5, e6⟩ := hc p.toNatClampNeg hpl
    by_cases hv : inR v 0 5
    · exact ME_of (S_X4_knows_0 p v σ (has_t h5 c1 hp (b1n (brn (by ((try simp only [fa_lt, fa_le, fa_eq, Int32.reduceToInt, tm1, tm2, tm3, tm4, tm9, tm10, tm11, tm12, tm13, tm14, tm100] at *); omega)) (brt (by ((try simp only [fa_lt, fa_le, fa_eq, Int32.reduceToInt, tm1, tm2, tm3, tm4, tm9, tm10, tm11, tm12, tm13, tm14, tm100] at *); omega)) ⟨hi, ME_of (S_X5_knows_0 p v _ (isHead_t h5 c2 hp (b1n (within_t hv (b1n ⟨hi, e3, Rel_knows hR hC hN hpl hv⟩)))))⟩)))))
    · have fin : ME g (d + 1) M_X5_knows [vR 23, vI p, vI v] σ (qI fun r2 σ2 => -2 = r2 ∧ Rel σ2) := ME_of (S_X5_knows_0 p v _ (isHead_t h5 c2 hp (b1n (within_f hv (b0n ⟨rfl, hR⟩)))))
      exact ME_of (S_X4_knows_0 p v σ (has_t h5 c1 hp (b1n ⟨fun a => fin, fun a => brn (by clear fin; ((try simp only [fa_lt, fa_le, fa_eq, Int32.reduceToInt, tm1, tm2, tm3, tm4, tm9, tm10, tm11, tm12, tm13, tm14, tm100] at *); omega)) fin⟩)))
  · exact ME_of (S_X4_knows_0 p v σ (has_f h5 c1 hp (b0n (ME_of (S_X5_knows_0 p v σ (isHead_f h5 c2 hp (b0n ⟨rfl, hR⟩)))))))
theorem st_back (k : Int32) (hR : Rel σ) : Dbl g (d + 1) M_X4_back M_X5_back [vI k] σ := by
  obtain ⟨h, n, hC, hN⟩ := hR.2.1
  obtain ⟨n8, c1, c2, hc⟩ := id hN
  have hn : (nI n).toInt = n := nI_v (by omega)
  by_cases hk : inR k 0 n
  · have e : nI n - k = nI (n - k.toInt.toNat) := by
      have t := tS (nI n) k
      have t2 := fb_rng k
      have t3 : (nI (n - k.toInt.toNat)).toInt = ((n - k.toInt.toNat : Nat) : Int) := nI_v (by omega)
      have t4 := fb_rng (nI n - k)
      rw [fa_eq]
      omega
    refine ME_of (S_X4_back_0 k σ (brn (by rw [fa_lt]; simp; omega) (brt (by rw [fa_le, c1, hn]; omega) (ME_of (S_X5_back_0 k _ (within_t (by rw [show (sU σ 18 3 (σ 18 3 - k)) 23 18 = σ 23 18 from rfl, c2, hn]; exact hk) (b1n ?_)))))))
    refine ⟨by show σ 18 3 - k = σ 23 18 - k; rw [c1, c2], RS_fr hR.1 (fun a ha => by rw [sU_o (by omega), sU_o (by omega)]), ⟨h, n - k.toInt.toNat, RC_fr hC rfl rfl (fun a ha => by rw [sU_o (by omega), sU_o (by omega)]), ?_⟩, hR.2.2.1, hR.2.2.2⟩
    refine ⟨by omega, ?_, ?_, fun r hr => hc r (by omega)⟩
    · show σ 18 3 - k = _
      rw [c1, e]
    · show σ 23 18 - k = _
      rw [c2, e]
  · have fin : ME g (d + 1) M_X5_back [vR 23, vI k] σ (qI fun r2 σ2 => -2 = r2 ∧ Rel σ2) := ME_of (S_X5_back_0 k _ (within_f (by rw [c2, hn]; exact hk) (b0n ⟨rfl, hR⟩)))
    exact ME_of (S_X4_back_0 k σ ⟨fun a => fin, fun a => brn (by rw [fa_le, c1, hn]; rw [fa_lt] at a; simp at a; omega) fin⟩)
theorem Rel_read {h n : Nat} {t p f : Int32} (hR : Rel σ) (hC : RC σ h) (hN : RR σ h n) (hn : n < 8) (ht : inR t 0 20) (hp : inR p 0 ((h : Int) - 1)) :
    Rel (sU (sU (sU (sU (sU (sU (sU (sU σ 19 n t) 20 n p) 21 n f) 18 3 (nI (n + 1))) 34 n t) 35 n p) 36 n f) 23 18 (nI (n + 1))) := by
  obtain ⟨n8, c1, c2, hc⟩ := hN
  refine ⟨RS_fr hR.1 (fun a ha => by repeat rw [sU_o (by omega)]), ⟨h, n + 1, RC_fr hC rfl rfl (fun a ha => by repeat rw [sU_o (by omega)]), ⟨by omega, rfl, rfl, fun r hr => ?_⟩⟩, hR.2.2.1, hR.2.2.2⟩
  by_cases hrn : r = n
  · subst hrn
    refine ⟨by simp [sU, upd], by simp [sU, upd], by simp [sU, upd], by simpa [sU, upd] using ht, by simpa [sU, upd] using hp⟩
  · have := hc r (by omega)
    simpa [sU, upd, hrn] using this
theorem clsRead {F : Int32 → St → Prop} {h : Nat} {t p f : Int32} (h5 : h ≤ 5) (c1 : σ 10 3 = nI h) (hp : inR p 0 ((h : Int) - 1)) (hf : f = -9 ∨ inR f 0 ((h : Int) - 1)) (K : ((t < 0 → F (-2) σ) ∧ (¬ t < 0 → ((t ≤ 20 → (((σ 18 3) < 8 → (ME g d M_X2_add [vR 18, vI t, vI p, vI f] σ (qI (fun r9 σ10 => F r9 σ10)))) ∧ (¬ (σ 18 3) < 8 → F (-4) σ))) ∧ (¬ t ≤ 20 → F (-2) σ))))) : ME g (d + 1) M_X4_reading [vR 0, vI t, vI p, vI f] σ (qI F) :=
  ME_of (S_X4_reading_0 t p f σ (has_t h5 c1 hp (b1p ⟨fun _ => K, fun e => has_t h5 c1 (hf.resolve_left e) (b1n K)⟩)))
theorem refRead {F : Int32 → St → Prop} {h : Nat} {t p f : Int32} (h5 : h ≤ 5) (c2 : σ 23 5 = nI h) (hp : inR p 0 ((h : Int) - 1)) (hf : f = -9 ∨ inR f 0 ((h : Int) - 1)) (K : (ME g d M_X5_within [vI t, vI 0, vI 20] σ (qI (fun r6 σ7 => ((¬ r6 = 0 → ((¬ (σ7 23 18) = 8 → (vp_in (σ7 23 18) 8 ∧ F (((σ7 23 18) + 1) - 1) (sU (sU (sU (sU σ7 34 ((σ7 23 18).toNatClampNeg) t) 35 ((σ7 23 18).toNatClampNeg) p) 36 ((σ7 23 18).toNatClampNeg) f) 23 18 ((σ7 23 18) + 1)))) ∧ ((σ7 23 18) = 8 → F (-4) σ7))) ∧ (r6 = 0 → F (-2) σ7)))))) : ME g (d + 1) M_X5_reading [vR 23, vI t, vI p, vI f] σ (qI F) :=
  ME_of (S_X5_reading_0 t p f σ (isHead_t h5 c2 hp (b1p ⟨fun _ => K, fun e => isHead_t h5 c2 (hf.resolve_left e) (b1n K)⟩)))
theorem st_reading (t p f : Int32) (hR : Rel σ) : Dbl g (d + 1) M_X4_reading M_X5_reading [vI t, vI p, vI f] σ := by
  obtain ⟨h, n, hC, hN⟩ := hR.2.1
  obtain ⟨h5, c1, c2, -⟩ := id hC
  obtain ⟨n8, n1, n2, -⟩ := id hN
  have hn : (nI n).toInt = n := nI_v (by omega)
  by_cases hp : inR p 0 ((h : Int) - 1)
  · by_cases hf : f = -9 ∨ inR f 0 ((h : Int) - 1)
    · by_cases ht : inR t 0 20
      · by_cases hn8 : n < 8
        · have hin : vp_in (nI n) 8 := vp_in_nI hn8 (by decide)
          have hcl : (nI n).toNatClampNeg = n := cl_n n (by omega)
          refine clsRead h5 c1 hp hf (brn (by rw [fa_lt]; simp; omega) (brt (by rw [fa_le]; simp; omega) (brt (by rw [n1, fa_lt, hn]; simp; omega) (ME_of (S_X2_add_0 t p f σ ?_)))))
          rw [n1, hcl, nI_1]
          refine ⟨hin, refRead h5 c2 hp hf (within_t ht (b1n ?_))⟩
          rw [show (sU (sU (sU (sU σ 19 n t) 20 n p) 21 n f) 18 3 (nI (n + 1))) 23 18 = σ 23 18 from rfl, n2, hcl, nI_1]
          exact brn' (by rw [fa_eq, hn]; simp; omega) ⟨hin, by rw [nI_pred], Rel_read hR hC hN hn8 ht hp⟩
        · exact clsRead h5 c1 hp hf (brn (by rw [fa_lt]; simp; omega) (brt (by rw [fa_le]; simp; omega) (brn (by rw [n1, fa_lt, hn]; simp; omega) (refRead h5 c2 hp hf (within_t ht (b1n (brt' (by rw [n2, fa_eq, hn]; simp; omega) ⟨rfl, hR⟩)))))))
      · have fin : ME g (d + 1) M_X5_reading [vR 23, vI t, vI p, vI f] σ (qI fun r2 σ2 => -2 = r2 ∧ Rel σ2) := refRead h5 c2 hp hf (within_f ht (b0n ⟨rfl, hR⟩))
        exact clsRead h5 c1 hp hf ⟨fun _ => fin, fun a => brn (by rw [fa_le]; rw [fa_lt] at a; simp at a ⊢; omega) fin⟩
    · have f9 : ¬ f = -9 := fun e => hf (Or.inl e)
      have fh : ¬ inR f 0 ((h : Int) - 1) := fun e => hf (Or.inr e)
      exact ME_of (S_X4_reading_0 t p f σ (has_t h5 c1 hp (b1p (brn f9 (has_f h5 c1 fh (b0n (ME_of (S_X5_reading_0 t p f σ (isHead_t h5 c2 hp (b1p (brn f9 (isHead_f h5 c2 fh (b0n ⟨rfl, hR⟩)))))))))))))
  · exact ME_of (S_X4_reading_0 t p f σ (has_f h5 c1 hp (b0p (ME_of (S_X5_reading_0 t p f σ (isHead_f h5 c2 hp (b0p ⟨rfl, hR⟩)))))))
/-- TRACE of both becomes the same -/
theorem Rel_tr {σ' : St} (hR : Rel σ) (e : ∀ a, a ≠ 0 → a ≠ 23 → σ' a = σ a) (e5 : σ' 23 5 = σ 23 5) (e18 : σ' 23 18 = σ 23 18) (e7 : σ' 0 7 = σ 0 7) (e0 : σ' 23 0 = σ 23 0) (et : σ' 0 6 = σ' 23 1) : Rel σ' := by
  obtain ⟨hS, ⟨hh, n, hC, hN⟩, hT, hF⟩ := hR
  exact ⟨RS_fr hS (fun a ha => e a (by omega) (by omega)), ⟨hh, n, RC_fr hC (by rw [e 10 (by decide) (by decide)]) e5 (fun a ha => e a (by omega) (by omega)), RR_fr hN (by rw [e 18 (by decide) (by decide)]) e18 (fun a ha => e a (by omega) (by omega))⟩, et, by rw [e7, e0]; exact hF⟩
theorem m_leave {F : St → Prop} {x : Int32} (h : F (sU σ 0 6 (31 * σ 0 6 + x))) : ME g d M_X4_leaveTrace [vR 0, vI x] σ (qV F) := ME_of (S_X4_leaveTrace_0 x σ h)
theorem m_begins {F : St → Prop} {x : Int32} (h : F (sU σ 23 1 (31 * σ 23 1 + x))) : ME g d M_X5_begins [vR 23, vI x] σ (qV F) := ME_of (S_X5_begins_0 x σ h)
theorem m_headsT {F : Int32 → St → Prop} {p : Int32} (hi : vp_in p 5) (h : F (σ 12 p.toNatClampNeg) (sU σ 0 6 (31 * σ 0 6 + 1))) : ME g (d + 1) M_X4_headsTelling [vR 0, vI p] σ (qI F) := ME_of (S_X4_headsTelling_0 p σ (m_leave ⟨hi, h⟩))
theorem m_lordsT {F : Int32 → St → Prop} {p : Int32} (hi : vp_in p 5) (h : F (σ 12 p.toNatClampNeg + 100) (sU (sU σ 0 6 (31 * σ 0 6 + 2)) 0 6 (31 * (31 * σ 0 6 + 2) + 1))) : ME g (d + 2) M_X4_lordsTelling [vR 0, vI p] σ (qI F) := ME_of (S_X4_lordsTelling_0 p σ (m_leave (m_headsT hi h)))
theorem st_tell (p : Int32) (hR : Rel σ) : Dbl g (d + 4) M_X4_tell M_X5_tell [vI p] σ := by
  obtain ⟨h, n, hC, hN⟩ := hR.2.1
  obtain ⟨h5, c1, c2, hc⟩ := id hC
  by_cases hp : inR p 0 ((h : Int) - 1)
  · have hi : vp_in p 5 := inR_in hp (by omega)
    have hpl : p.toNatClampNeg < h := by rw [tcl]; omega
    obtain ⟨e1, e2, e3, e4, e5, e6⟩ := hc p.toNatClampNeg hpl
    refine ME_of (S_X4_tell_0 p σ (has_t h5 c1 hp (b1n ⟨hi, fun a => m_lordsT hi ?_, fun a => ⟨fun b => ME_of (S_X4_spysTelling_0 p σ (m_leave (m_lordsT hi (m_headsT hi ?_)))), fun b => m_headsT hi ?_⟩⟩)))
    · refine ME_of (S_X5_tell_0 p _ (isHead_t h5 c2 hp (b1n ⟨hi, brt (by show σ 27 _ = 1; rw [← e1]; exact a) (m_begins (m_begins ⟨?_, Rel_tr hR (fun a h0 h23 => by repeat rw [sU_o (by omega)]) rfl rfl rfl rfl ?_⟩))⟩)))
      · show σ 12 p.toNatClampNeg + 100 = σ 28 p.toNatClampNeg + 100
        rw [e2]
      · show 31 * (31 * σ 0 6 + 2) + 1 = 31 * (31 * σ 23 1 + 2) + 1
        rw [hR.2.2.1]
    · refine ME_of (S_X5_tell_0 p _ (isHead_t h5 c2 hp (b1n ⟨hi, brn (by show ¬ σ 27 _ = 1; rw [← e1]; exact a) (brt (by show σ 27 _ = 2; rw [← e1]; exact b) (m_begins (m_begins (m_begins (m_begins ⟨?_, Rel_tr hR (fun a h0 h23 => by repeat rw [sU_o (by omega)]) rfl rfl rfl rfl ?_⟩)))))⟩)))
      · show (σ 12 p.toNatClampNeg + 100) + σ 12 p.toNatClampNeg = 2 * σ 28 p.toNatClampNeg + 100
        rw [e2, fa_eq]
        have r1 : inR (σ 28 p.toNatClampNeg) 1 9 := by rw [← e2]; exact e5
        have t1 := tA (σ 28 p.toNatClampNeg) 100
        have t2 := tA (σ 28 p.toNatClampNeg + 100) (σ 28 p.toNatClampNeg)
        have t3 : 2 * σ 28 p.toNatClampNeg = σ 28 p.toNatClampNeg + σ 28 p.toNatClampNeg := Int32.two_mul
        have t4 := tA (σ 28 p.toNatClampNeg) (σ 28 p.toNatClampNeg)
        have t5 := tA (σ 28 p.toNatClampNeg + σ 28 p.toNatClampNeg) 100
        have t6 := fb_rng (σ 28 p.toNatClampNeg + 100)
        have t7 := fb_rng (σ 28 p.toNatClampNeg + 100 + σ 28 p.toNatClampNeg)
        have t8 := fb_rng (σ 28 p.toNatClampNeg + σ 28 p.toNatClampNeg)
        have t9 := fb_rng (σ 28 p.toNatClampNeg + σ 28 p.toNatClampNeg + 100)
        have t0 : (100 : Int32).toInt = 100 := rfl
        rw [t3]
        omega
      · show 31 * (31 * (31 * (31 * σ 0 6 + 3) + 2) + 1) + 1 = 31 * (31 * (31 * (31 * σ 23 1 + 3) + 2) + 1) + 1
        rw [hR.2.2.1]
    · refine ME_of (S_X5_tell_0 p _ (isHead_t h5 c2 hp (b1n ⟨hi, brn (by show ¬ σ 27 _ = 1; rw [← e1]; exact a) (brn (by show ¬ σ 27 _ = 2; rw [← e1]; exact b) (m_begins ⟨?_, Rel_tr hR (fun a h0 h23 => by repeat rw [sU_o (by omega)]) rfl rfl rfl rfl ?_⟩))⟩)))
      · show σ 12 p.toNatClampNeg = σ 28 p.toNatClampNeg
        exact e2
      · show 31 * σ 0 6 + 1 = 31 * σ 23 1 + 1
        rw [hR.2.2.1]
  · exact ME_of (S_X4_tell_0 p σ (has_f h5 c1 hp (b0n (ME_of (S_X5_tell_0 p σ (isHead_f h5 c2 hp (b0n ⟨rfl, hR⟩)))))))
theorem st_greet (p : Int32) (hR : Rel σ) : Dbl g (d + 1) M_X4_greet M_X5_greet [vI p] σ := by
  obtain ⟨h, n, hC, hN⟩ := hR.2.1
  obtain ⟨h5, c1, c2, hc⟩ := id hC
  by_cases hp : inR p 0 ((h : Int) - 1)
  · have hi : vp_in p 5 := inR_in hp (by omega)
    have hpl : p.toNatClampNeg < h := by rw [tcl]; omega
    obtain ⟨e1, e2, e3, e4, e5, e6⟩ := hc p.toNatClampNeg hpl
    refine ME_of (S_X4_greet_0 p σ (has_t h5 c1 hp (b1n ⟨hi, fun a => m_leave ?_, fun a => m_leave ?_⟩)))
    · have a2 : ¬ σ 27 p.toNatClampNeg = 2 := by rw [← e1]; exact a
      refine ME_of (S_X5_greet_0 p _ (isHead_t h5 c2 hp (b1n ⟨hi, brn' a2 (m_begins (brn' a2 ⟨rfl, Rel_tr hR (fun a h0 h23 => by repeat rw [sU_o (by omega)]) rfl rfl rfl rfl ?_⟩))⟩)))
      show 31 * σ 0 6 + 4 = 31 * σ 23 1 + 4
      rw [hR.2.2.1]
    · have a2 : σ 27 p.toNatClampNeg = 2 := by rw [← e1]; exact a
      refine ME_of (S_X5_greet_0 p _ (isHead_t h5 c2 hp (b1n ⟨hi, brt' a2 (m_begins (brt' a2 ⟨rfl, Rel_tr hR (fun a h0 h23 => by repeat rw [sU_o (by omega)]) rfl rfl rfl rfl ?_⟩))⟩)))
      show 31 * σ 0 6 + 5 = 31 * σ 23 1 + 5
      rw [hR.2.2.1]
  · exact ME_of (S_X4_greet_0 p σ (has_f h5 c1 hp (b0n (ME_of (S_X5_greet_0 p σ (isHead_f h5 c2 hp (b0n ⟨rfl, hR⟩)))))))
/-- the fault 0 on both sides -/
theorem Rel_n0 {r : Int32} (hR : Rel σ) (hr : ntV r = 0) : Rel (sU (sU σ 0 7 (ntV r)) 23 0 0) := Rel_note hR (fun a h0 h23 => by repeat rw [sU_o (by omega)]) rfl rfl rfl rfl (by rw [hr]; rfl)
theorem st_as (p k : Int32) (hR : Rel σ) : Dbl g (d + 2) M_X4_as M_X5_as [vI p, vI k] σ := by
  obtain ⟨h, n, hC, hN⟩ := hR.2.1
  obtain ⟨h5, c1, c2, hc⟩ := id hC
  by_cases hp : inR p 0 ((h : Int) - 1)
  · have hi : vp_in p 5 := inR_in hp (by omega)
    have hpl : p.toNatClampNeg < h := by rw [tcl]; omega
    obtain ⟨e1, e2, e3, e4, e5, e6⟩ := hc p.toNatClampNeg hpl
    by_cases hk : inR k 0 2
    · by_cases hq : σ 11 p.toNatClampNeg < k
      · refine ME_of (S_X4_as_0 p k σ (ME_of (S_X4_answerOfKind_0 p k σ (has_t h5 c1 hp (b1n (brn (by ((try simp only [fa_lt, fa_le, fa_eq, Int32.reduceToInt, tm1, tm2, tm3, tm4, tm9, tm10, tm11, tm12, tm13, tm14, tm100] at *); omega)) (brt (by ((try simp only [fa_lt, fa_le, fa_eq, Int32.reduceToInt, tm1, tm2, tm3, tm4, tm9, tm10, tm11, tm12, tm13, tm14, tm100] at *); omega)) ⟨hi, brt hq (m_noted ?_)⟩)))))))
        refine ME_of (S_X5_as_0 p k _ (isHead_t h5 c2 hp (b1n (within_t hk (b1n ⟨hi, brt (by show σ 27 _ < k; rw [← e1]; exact hq) (m_fails ⟨rfl, ?_⟩)⟩)))))
        exact Rel_note hR (fun a h0 h23 => by repeat rw [sU_o (by omega)]) rfl rfl rfl rfl rfl
      · refine ME_of (S_X4_as_0 p k σ (ME_of (S_X4_answerOfKind_0 p k σ (has_t h5 c1 hp (b1n (brn (by ((try simp only [fa_lt, fa_le, fa_eq, Int32.reduceToInt, tm1, tm2, tm3, tm4, tm9, tm10, tm11, tm12, tm13, tm14, tm100] at *); omega)) (brt (by ((try simp only [fa_lt, fa_le, fa_eq, Int32.reduceToInt, tm1, tm2, tm3, tm4, tm9, tm10, tm11, tm12, tm13, tm14, tm100] at *); omega)) ⟨hi, brn hq (m_noted ?_)⟩)))))))
        exact ME_of (S_X5_as_0 p k _ (isHead_t h5 c2 hp (b1n (within_t hk (b1n ⟨hi, brn (by show ¬ σ 27 _ < k; rw [← e1]; exact hq) ⟨rfl, Rel_n0 hR rfl⟩⟩)))))
    · have fin : ME g (d + 1) M_X4_noted [vR 0, vI (-2)] σ (qI fun r1 σ1 => ME g (d + 2) M_X5_as [vR 23, vI p, vI k] σ1 (qI fun r2 σ2 => r1 = r2 ∧ Rel σ2)) := m_noted (ME_of (S_X5_as_0 p k _ (isHead_t h5 c2 hp (b1n (within_f hk (b0n ⟨rfl, Rel_n0 hR rfl⟩))))))
      exact ME_of (S_X4_as_0 p k σ (ME_of (S_X4_answerOfKind_0 p k σ (has_t h5 c1 hp (b1n ⟨fun a => fin, fun a => brn (by rw [fa_lt]; rw [fa_lt] at a; simp at a ⊢; omega) fin⟩)))))
  · exact ME_of (S_X4_as_0 p k σ (ME_of (S_X4_answerOfKind_0 p k σ (has_f h5 c1 hp (b0n (m_noted (ME_of (S_X5_as_0 p k _ (isHead_f h5 c2 hp (b0n ⟨rfl, Rel_n0 hR rfl⟩))))))))))
end HEADS
end
section
section SHEETOPS
variable {g : GG} {d : Nat} {σ : St}
theorem toN {x : Int32} {hi : Int} (h : inR x 0 hi) : ∃ k : Nat, x = nI k ∧ (k : Int) ≤ hi ∧ k < 2147483648 := ⟨x.toInt.toNat, nI_x h.1, by omega, by have := fb_rng x; omega⟩
theorem in3 {k : Nat} (h : (k : Int) ≤ 3) : inR (nI k) 0 3 := by
  have := nI_v (n := k) (by omega)
  omega
theorem m60 (k i : Nat) : (60 : Int32) * nI k + nI i = nI (60 * k + i) := by
  show nI 60 * nI k + nI i = _
  rw [pk_mul, nI_add]
/-- the sheets' part of the relation, behind a change of the sheet k -/
theorem RS_put {σ' : St} {k : Nat} (hS : RS σ) (hk : k < 4) (e : ∀ a, (2 ≤ a ∧ a ≤ 9) → a ≠ 2 + k → a ≠ 6 + k → σ' a = σ a) (e24 : ∀ j, j ≠ k → σ' 24 j = σ 24 j) (e25 : ∀ j, j ≠ k → σ' 25 j = σ 25 j) (e26 : ∀ j i, j < 4 → j ≠ k → i < 60 → σ' 26 (60 * j + i) = σ 26 (60 * j + i)) (h1 : RS1 σ' k) (h2 : ∀ i, i < 60 → σ' (6 + k) i = σ' 26 (60 * k + i)) : RS σ' := by
  refine ⟨fun j hj => ?_, fun j i hj hi => ?_⟩
  · by_cases hjk : j = k
    · subst hjk; exact h1
    · have := hS.1 j hj
      unfold RS1 at *
      rw [e (2 + j) (by omega) (by omega) (by omega), e24 j hjk, e25 j hjk]
      exact this
  · by_cases hjk : j = k
    · subst hjk; exact h2 i hi
    · rw [e (6 + j) (by omega) (by omega) (by omega), e26 j i hj hjk hi]
      exact hS.2 j i hj hi
/-- the whole relation, when only sheets and notes changed -/
theorem Rel_sh {σ' : St} (hR : Rel σ) (hS : RS σ') (e : ∀ a, 10 ≤ a → a ≠ 23 → a ≠ 24 → a ≠ 25 → a ≠ 26 → σ' a = σ a) (e0 : σ' 0 6 = σ 0 6) (e1 : σ' 23 1 = σ 23 1) (e5 : σ' 23 5 = σ 23 5) (e18 : σ' 23 18 = σ 23 18) (ef : σ' 0 7 = σ' 23 0) : Rel σ' := by
  obtain ⟨-, ⟨hh, n, hC, hN⟩, hT, hF⟩ := hR
  refine ⟨hS, ⟨hh, n, RC_fr hC (by rw [e 10 (by omega) (by omega) (by omega) (by omega) (by omega)]) e5 (fun a ha => e a (by omega) (by omega) (by omega) (by omega) (by omega)), RR_fr hN (by rw [e 18 (by omega) (by omega) (by omega) (by omega) (by omega)]) e18 (fun a ha => e a (by omega) (by omega) (by omega) (by omega) (by omega))⟩, by rw [e0, e1]; exact hT, ef⟩
theorem st_lose (x : Int32) (hR : Rel σ) : Dbl g (d + 2) M_X4_lose M_X5_lose [vI x] σ := by
  by_cases hx : inR x 0 3
  · obtain ⟨k, rfl, hk3, -⟩ := toN hx
    have hk : k < 4 := by omega
    have hi : vp_in (nI k) 4 := inR_in hx (by decide)
    have hcl : (nI k).toNatClampNeg = k := cl_n k (by omega)
    have fin : Rel (sU (sU σ (2 + k) 2 (-9)) 24 k (-9)) := by
      refine Rel_sh hR (RS_put hR.1 hk (fun a h1 h2 h3 => by rw [sU_o (by omega), sU_o (by omega)]) (fun j hj => by simp [sU, upd, hj, show (24 : Nat) ≠ 2 + k by omega]) (fun j hj => by rw [sU_o (by omega), sU_o (by omega)]) (fun j i h1 h2 h3 => by rw [sU_o (by omega), sU_o (by omega)]) (Or.inl ⟨?_, ?_⟩) (fun i hi => ?_)) (fun a h1 h2 h3 h4 h5 => by rw [sU_o (by omega), sU_o (by omega)]) ?_ ?_ ?_ ?_ ?_
      · rw [sU_o (by omega), sU_s]; simp [upd]
      · rw [sU_s]; simp [upd]
      · rw [sU_o (by omega), sU_o (by omega), sU_o (by omega), sU_o (by omega)]
        exact hR.1.2 k i hk hi
      all_goals simp only [sU_o (show (0 : Nat) ≠ 24 by decide), sU_o (show (23 : Nat) ≠ 24 by decide), sU_o (show (0 : Nat) ≠ 2 + k by omega), sU_o (show (23 : Nat) ≠ 2 + k by omega)]
      exact hR.2.2.2
    refine ME_of (S_X4_lose_0 (nI k) σ (isSheet_t hx (b1n ⟨hi, ?_⟩)))
    rw [hcl]
    have md : ∀ (r : Int32), (r = 1 ∧ ¬ σ 24 k = -9 ∨ r = 0 ∧ σ 24 k = -9) → ME g (d + 2) M_X5_lose [vR 23, vI (nI k)] (sU σ (2 + k) 2 (-9)) (qI fun r2 σ2 => r = r2 ∧ Rel σ2) := by
      intro r hr
      refine ME_of (S_X5_lose_0 (nI k) _ (isSheet5_t hx (b1n ⟨hi, ?_⟩)))
      rw [hcl, sU_o (show (24 : Nat) ≠ 2 + k by omega)]
      rcases hr with ⟨rfl, h9⟩ | ⟨rfl, h9⟩
      · exact brn' h9 ⟨rfl, fin⟩
      · exact brt' h9 ⟨rfl, fin⟩
    have hs := hR.1.1 k hk
    unfold RS1 at hs
    rcases hs with ⟨s1, s2⟩ | ⟨s1, s2, s3, s4⟩
    · exact isNothing_t hk (by rw [s1]; decide) (b1p (md 0 (Or.inr ⟨rfl, s2⟩)))
    · exact isNothing_f hk s1.1 (b0p (md 1 (Or.inl ⟨rfl, by rw [s4, fa_eq, tm9]; omega⟩)))
  · exact ME_of (S_X4_lose_0 x σ (isSheet_f hx (b0n (ME_of (S_X5_lose_0 x σ (isSheet5_f hx (b0n ⟨rfl, hR⟩)))))))
/-- a new row: all its cells are 0 -/
theorem l_renew {F : St → Prop} {k : Nat} (hk : k < 4) {a b : Int32} (σ0 : St) (hF : ∀ σ' : St, (∀ c, c ≠ 6 + k → σ' c = σ0 c) → (∀ j, j < 60 → σ' (6 + k) j = 0) → F σ') : ∀ (n i : Nat) (σ : St), i + n = 60 → (∀ c, c ≠ 6 + k → σ c = σ0 c) → (∀ j, j < i → σ (6 + k) j = 0) → VM g d M_X3_renew (qV F) 12 [(0, vR (2 + k)), (1, vI a), (2, vI b), (3, vI (nI i))] [] σ
  | 0, i, σ, hi, h1, h2 => S_X3_renew_12 hk a b (nI i) σ (brt (by rw [show i = 60 by omega]; decide) (hF σ h1 (fun j hj => h2 j (by omega))))
  | n + 1, i, σ, hi, h1, h2 => by
    refine S_X3_renew_12 hk a b (nI i) σ (brn (nI_ge (a := i) (b := 60) (by omega) (by decide)) ⟨vp_in_nI (by omega) (by decide), ?_⟩)
    rw [cl_n i (by omega), nI_1]
    refine l_renew hk σ0 hF n (i + 1) _ (by omega) (fun c hc => by rw [sU_o hc, h1 c hc]) (fun j hj => ?_)
    rw [sU_s]
    by_cases e : j = i
    · simp [upd, e]
    · simp only [upd, e, if_false]
      exact h2 j (by omega)
theorem m_renew {F : St → Prop} {k : Nat} (hk : k < 4) {a b : Int32} (hF : ∀ σ' : St, (∀ c, c ≠ 6 + k → c ≠ 2 + k → σ' c = σ c) → σ' (2 + k) 1 = a → σ' (2 + k) 2 = b → (∀ j, j < 60 → σ' (6 + k) j = 0) → F σ') : ME g d M_X3_renew [vR (2 + k), vI a, vI b] σ (qV F) := by
  refine ME_of (S_X3_renew_0 hk a b σ (l_renew hk (sU (sU σ (2 + k) 1 a) (2 + k) 2 b) (fun σ' h1 h2 => hF σ' (fun c hc hc2 => by rw [h1 c hc, sU_o hc2, sU_o hc2]) ?_ ?_ h2) 60 0 _ rfl (fun _ _ => rfl) (fun j hj => absurd hj (Nat.not_lt_zero j))))
  · rw [h1 _ (by omega), sU_s]
    simp [upd, sU_s]
  · rw [h1 _ (by omega), sU_s]
    simp [upd]
theorem l_sheet5 {F : Int32 → St → Prop} {k : Nat} (hk : k < 4) {a b : Int32} (σ0 : St) (hF : ∀ σ' : St, (∀ c, c ≠ 26 → σ' c = σ0 c) → (∀ j, (j < 60 * k ∨ 60 * k + 60 ≤ j) → σ' 26 j = σ0 26 j) → (∀ j, j < 60 → σ' 26 (60 * k + j) = 0) → F 1 σ') : ∀ (n i : Nat) (σ : St), i + n = 60 → (∀ c, c ≠ 26 → σ c = σ0 c) → (∀ j, (j < 60 * k ∨ 60 * k + 60 ≤ j) → σ 26 j = σ0 26 j) → (∀ j, j < i → σ 26 (60 * k + j) = 0) → VM g (d + 1) M_X5_sheet (qI F) 57 [(0, vR 23), (1, vI (nI k)), (2, vI a), (3, vI b), (4, vI (nI i))] [] σ
  | 0, i, σ, hi, h1, h3, h2 => S_X5_sheet_57 (nI k) a b (nI i) σ (brt (by rw [show i = 60 by omega]; decide) (hF σ h1 h3 (fun j hj => h2 j (by omega))))
  | n + 1, i, σ, hi, h1, h3, h2 => by
    refine S_X5_sheet_57 (nI k) a b (nI i) σ (brn (nI_ge (a := i) (b := 60) (by omega) (by decide)) ?_)
    rw [m60, cl_n (60 * k + i) (by omega), nI_1]
    refine ⟨vp_in_nI (by omega) (by decide), l_sheet5 hk σ0 hF n (i + 1) _ (by omega) (fun c hc => by rw [sU_o hc, h1 c hc]) (fun j hj => ?_) (fun j hj => ?_)⟩
    · rw [sU_s]
      simp only [upd]
      rw [if_neg (by omega)]
      exact h3 j hj
    · rw [sU_s]
      by_cases e : j = i
      · simp [upd, e]
      · simp only [upd]
        rw [if_neg (by omega)]
        exact h2 j (by omega)
theorem m_troubleOfNew {F : Int32 → St → Prop} {k lane n : Int32} (h : F (if ¬ inR k 0 3 then -1 else if ¬ inR lane 0 2 ∨ 60 < n.toInt then -2 else if n.toInt < 0 then -14 else 0) σ) : ME g (d + 1) M_X4_troubleOfNew [vR 0, vI k, vI lane, vI n] σ (qI F) := by
  refine ME_of (S_X4_troubleOfNew_0 k lane n σ (m_isSheet (fun a => b1n (m_isLane (fun b => b1p ⟨fun c => ⟨fun e => ?_, fun e => ?_⟩, fun c => ?_⟩) (fun b => b0p ?_))) (fun a => b0n ?_)))
  · rw [if_neg (not_not_intro a), if_neg (by ((try simp only [fa_lt, fa_le, fa_eq, Int32.reduceToInt, tm1, tm2, tm3, tm4, tm9, tm10, tm11, tm12, tm13, tm14, tm100] at *); omega)), if_neg (by ((try simp only [fa_lt, fa_le, fa_eq, Int32.reduceToInt, tm1, tm2, tm3, tm4, tm9, tm10, tm11, tm12, tm13, tm14, tm100] at *); omega))] at h
    exact h
  · rw [if_neg (not_not_intro a), if_neg (by ((try simp only [fa_lt, fa_le, fa_eq, Int32.reduceToInt, tm1, tm2, tm3, tm4, tm9, tm10, tm11, tm12, tm13, tm14, tm100] at *); omega)), if_pos (by ((try simp only [fa_lt, fa_le, fa_eq, Int32.reduceToInt, tm1, tm2, tm3, tm4, tm9, tm10, tm11, tm12, tm13, tm14, tm100] at *); omega))] at h
    exact h
  · rw [if_neg (not_not_intro a), if_pos (Or.inr (by ((try simp only [fa_lt, fa_le, fa_eq, Int32.reduceToInt, tm1, tm2, tm3, tm4, tm9, tm10, tm11, tm12, tm13, tm14, tm100] at *); omega)))] at h
    exact h
  · rw [if_neg (not_not_intro a), if_pos (Or.inl b)] at h
    exact h
  · rw [if_pos a] at h
    exact h
theorem st_sheet (x lane n : Int32) (hR : Rel σ) : Dbl g (d + 2) M_X4_sheet M_X5_sheet [vI x, vI lane, vI n] σ := by
  refine ME_of (S_X4_sheet_0 x lane n σ (m_troubleOfNew (m_noted ?_)))
  by_cases hx : inR x 0 3
  · rw [if_neg (not_not_intro hx)]
    by_cases hl : ¬ inR lane 0 2 ∨ 60 < n.toInt
    · rw [if_pos hl]
      refine brn (by decide) (ME_of (S_X5_sheet_0 x lane n _ (isSheet5_t hx (b1n ?_))))
      by_cases h2 : inR lane 0 2
      · exact isSort_t h2 (b1p (brn (by have := hl.resolve_left (not_not_intro h2); rw [fa_le]; simp; omega) ⟨rfl, Rel_n0 hR rfl⟩))
      · exact isSort_f h2 (b0p ⟨rfl, Rel_n0 hR rfl⟩)
    · rw [if_neg hl]
      have h2 : inR lane 0 2 := Decidable.not_not.mp (fun q => hl (Or.inl q))
      have h60 : ¬ 60 < n.toInt := fun q => hl (Or.inr q)
      by_cases hn : n.toInt < 0
      · rw [if_pos hn]
        refine brn (by decide) (ME_of (S_X5_sheet_0 x lane n _ (isSheet5_t hx (b1n (isSort_t h2 (b1p (brt (by rw [fa_le]; simp; omega) (brn (by rw [fa_le]; simp; omega) (m_fails ⟨rfl, Rel_note hR (fun a h0 h23 => by repeat rw [sU_o (by omega)]) rfl rfl rfl rfl rfl⟩)))))))))
      · rw [if_neg hn]
        obtain ⟨k, rfl, hk3, -⟩ := toN hx
        have hk : k < 4 := by omega
        have hi : vp_in (nI k) 4 := inR_in hx (by decide)
        have hcl : (nI k).toNatClampNeg = k := cl_n k (by omega)
        refine brt rfl ⟨hi, ?_⟩
        rw [hcl]
        refine m_renew hk (fun σ1 e1 e2 e3 e4 => ME_of (S_X5_sheet_0 (nI k) lane n _ (isSheet5_t hx (b1n (isSort_t h2 (b1p (brt (by rw [fa_le]; simp; omega) (brt (by rw [fa_le]; simp; omega) ⟨hi, ?_⟩))))))))
        rw [hcl]
        refine l_sheet5 hk _ (fun σ2 f1 f2 f3 => ⟨rfl, ?_⟩) 60 0 _ rfl (fun _ _ => rfl) (fun _ _ => rfl) (fun j hj => absurd hj (Nat.not_lt_zero j))
        have key : ∀ a, a ≠ 6 + k → a ≠ 2 + k → a ≠ 26 → a ≠ 25 → a ≠ 24 → a ≠ 23 → a ≠ 0 → σ2 a = σ a := fun a h1 h2 h3 h4 h5 h6 h7 => by
          rw [f1 a h3, sU_o h4, sU_o h5, sU_o h6, e1 a h1 h2, sU_o h7]
        refine Rel_sh hR (RS_put hR.1 hk (fun a h1 h2 h3 => key a h3 h2 (by omega) (by omega) (by omega) (by omega) (by omega)) (fun j hj => ?_) (fun j hj => ?_) (fun j i h1 h2 h3 => ?_) (Or.inr ?_) (fun i hi => ?_)) (fun a h1 h2 h3 h4 h5 => key a (by omega) (by omega) h5 h4 h3 h2 (by omega)) ?_ ?_ ?_ ?_ ?_
        · rw [f1 24 (by decide), sU_o (by decide), sU_s, sU_o (by decide), e1 24 (by omega) (by omega), sU_o (by decide)]
          simp [upd, hj]
        · rw [f1 25 (by decide), sU_s, sU_o (by decide), sU_o (by decide), e1 25 (by omega) (by omega), sU_o (by decide)]
          simp [upd, hj]
        · rw [f2 _ (by omega), sU_o (by decide), sU_o (by decide), sU_o (by decide), e1 26 (by omega) (by omega), sU_o (by decide)]
        · have q1 : σ2 (2 + k) 1 = lane := by rw [f1 _ (by omega), sU_o (by omega), sU_o (by omega), sU_o (by omega), e2]
          have q2 : σ2 (2 + k) 2 = n := by rw [f1 _ (by omega), sU_o (by omega), sU_o (by omega), sU_o (by omega), e3]
          have q3 : σ2 25 k = n := by rw [f1 25 (by decide), sU_s]; simp [upd]
          have q4 : σ2 24 k = lane := by rw [f1 24 (by decide), sU_o (by decide), sU_s]; simp [upd]
          rw [q1, q2, q3, q4]
          exact ⟨⟨by omega, by omega⟩, rfl, h2, rfl⟩
        · rw [f3 i hi, f1 _ (by omega), sU_o (by omega), sU_o (by omega), sU_o (by omega), e4 i hi]
        · rw [f1 0 (by decide), sU_o (by decide), sU_o (by decide), sU_o (by decide), e1 0 (by omega) (by omega), sU_s]
          rfl
        · rw [f1 23 (by decide), sU_o (by decide), sU_o (by decide), sU_s, e1 23 (by omega) (by omega), sU_o (by decide)]
          rfl
        · rw [f1 23 (by decide), sU_o (by decide), sU_o (by decide), sU_s, e1 23 (by omega) (by omega), sU_o (by decide)]
          rfl
        · rw [f1 23 (by decide), sU_o (by decide), sU_o (by decide), sU_s, e1 23 (by omega) (by omega), sU_o (by decide)]
          rfl
        · rw [f1 0 (by decide), sU_o (by decide), sU_o (by decide), sU_o (by decide), e1 0 (by omega) (by omega), sU_s, f1 23 (by decide), sU_o (by decide), sU_o (by decide), sU_s]
          rfl
  · rw [if_pos hx]
    exact brn (by decide) (ME_of (S_X5_sheet_0 x lane n _ (isSheet5_f hx (b0n ⟨rfl, Rel_n0 hR rfl⟩))))
end SHEETOPS
end
section
section CELLOPS
variable {g : GG} {d : Nat} {σ : St}
def cutV (v lane : Int32) : Int32 := if lane = 0 then v.toInt8.toInt32 else if lane = 1 then v.toInt16.toInt32 else v
theorem m_cut {F : Int32 → St → Prop} {v lane : Int32} (h : F (cutV v lane) σ) : ME g d M_X4_cut [vI v, vI lane] σ (qI F) := by
  refine ME_of (S_X4_cut_0 v lane σ ⟨fun a => ⟨fun b => ?_, fun b => ?_⟩, fun a => ?_⟩)
  · rw [cutV, if_neg a, if_neg b] at h; exact h
  · rw [cutV, if_neg a, if_pos b] at h; exact h
  · rw [cutV, if_pos a] at h; exact h
def tpV (σ : St) (x i : Int32) : Int32 := if ¬ inR x 0 3 then -1 else if (σ (2 + x.toNatClampNeg) 2).toInt < 0 then -11 else if ¬ hasC (σ (2 + x.toNatClampNeg) 2) i 1 then -13 else 0
theorem m_troubleOfPut {F : Int32 → St → Prop} {x i : Int32} (h : F (tpV σ x i) σ) : ME g (d + 1) M_X4_troubleOfPut [vR 0, vI x, vI i] σ (qI F) := by
  refine ME_of (S_X4_troubleOfPut_0 x i σ (m_isSheet (fun a => b1n ⟨inR_in a (by decide), m_isNothing (tcl_lt a (by decide)) (fun b => b1p ?_) (fun b => b0p (m_hasCells (tcl_lt a (by decide)) (fun c => b1p ?_) (fun c => b0p ?_)))⟩) (fun a => b0n ?_)))
  · rw [tpV, if_neg (not_not_intro a), if_pos b] at h; exact h
  · rw [tpV, if_neg (not_not_intro a), if_neg (by omega), if_neg (not_not_intro c)] at h; exact h
  · rw [tpV, if_neg (not_not_intro a), if_neg (by omega), if_pos c] at h; exact h
  · rw [tpV, if_pos a] at h; exact h
/-- a cell of both sides becomes v -/
theorem Rel_put {k i : Nat} {v z y : Int32} (hR : Rel σ) (hk : k < 4) (hi : i < 60) (hz : z = y) : Rel (sU (sU (sU (sU σ 0 7 z) (6 + k) i v) 23 0 y) 26 (60 * k + i) v) := by
  have key : ∀ a, a ≠ 0 → a ≠ 6 + k → a ≠ 23 → a ≠ 26 → (sU (sU (sU (sU σ 0 7 z) (6 + k) i v) 23 0 y) 26 (60 * k + i) v) a = σ a := fun a h1 h2 h3 h4 => by rw [sU_o h4, sU_o h3, sU_o h2, sU_o h1]
  refine Rel_sh hR (RS_put hR.1 hk (fun a h1 h2 h3 => key a (by omega) h3 (by omega) (by omega)) (fun j hj => by rw [key 24 (by decide) (by omega) (by decide) (by decide)]) (fun j hj => by rw [key 25 (by decide) (by omega) (by decide) (by decide)]) (fun j q h1 h2 h3 => ?_) ?_ (fun q hq => ?_)) (fun a h1 h2 h3 h4 h5 => key a (by omega) (by omega) h2 h5) ?_ ?_ ?_ ?_ ?_
  · rw [sU_s]
    simp only [upd]
    rw [if_neg (by omega), sU_o (by decide), sU_o (by omega), sU_o (by decide)]
  · have := hR.1.1 k hk
    unfold RS1 at *
    rw [key (2 + k) (by omega) (by omega) (by omega) (by omega), key 24 (by decide) (by omega) (by decide) (by decide), key 25 (by decide) (by omega) (by decide) (by decide)]
    exact this
  · rw [sU_o (show 6 + k ≠ 26 by omega), sU_o (show 6 + k ≠ 23 by omega), sU_s, sU_s]
    simp only [upd]
    by_cases e : q = i
    · rw [if_pos e, if_pos (by omega)]
    · rw [if_neg e, if_neg (by omega), sU_o (by omega), sU_o (by decide), sU_o (by omega), sU_o (by decide)]
      exact hR.1.2 k q hk hq
  · rw [sU_o (by decide), sU_o (by decide), sU_o (by omega), sU_s]; rfl
  · rw [sU_o (by decide), sU_s]; show (sU (sU σ 0 7 z) (6 + k) i v) 23 1 = _; rw [sU_o (by omega), sU_o (by decide)]
  · rw [sU_o (by decide), sU_s]; show (sU (sU σ 0 7 z) (6 + k) i v) 23 5 = _; rw [sU_o (by omega), sU_o (by decide)]
  · rw [sU_o (by decide), sU_s]; show (sU (sU σ 0 7 z) (6 + k) i v) 23 18 = _; rw [sU_o (by omega), sU_o (by decide)]
  · rw [sU_o (by decide), sU_o (by decide), sU_o (by omega), sU_s, sU_o (by decide), sU_s]; exact hz
theorem st_put (x i v : Int32) (hR : Rel σ) : Dbl g (d + 2) M_X4_put M_X5_put [vI x, vI i, vI v] σ := by
  refine ME_of (S_X4_put_0 x i v σ (m_troubleOfPut (m_noted ?_)))
  by_cases hx : inR x 0 3
  · obtain ⟨k, rfl, hk3, -⟩ := toN hx
    have hk : k < 4 := by omega
    have hin : vp_in (nI k) 4 := inR_in hx (by decide)
    have hcl : (nI k).toNatClampNeg = k := cl_n k (by omega)
    have hs := hR.1.1 k hk
    unfold RS1 at hs
    rw [tpV, if_neg (not_not_intro hx), hcl]
    rcases hs with ⟨s1, s2⟩ | ⟨s1, s2, s3, s4⟩
    · rw [if_pos (by rw [s1]; decide)]
      refine brn (by decide) (ME_of (S_X5_put_0 (nI k) i v _ (isSheet5_t hx (b1n ⟨hin, ?_⟩))))
      rw [hcl]
      exact brt' s2 (m_fails ⟨rfl, Rel_note hR (fun a h0 h23 => by repeat rw [sU_o (by omega)]) rfl rfl rfl rfl rfl⟩)
    · have n9 : ¬ σ 24 k = -9 := by rw [s4, fa_eq, tm9]; omega
      rw [if_neg (by omega)]
      by_cases hc : hasC (σ (2 + k) 2) i 1
      · have hc1 : 0 ≤ i.toInt ∧ i.toInt + 1 ≤ (σ (2 + k) 2).toInt := ⟨hc.1, hc.2.2⟩
        obtain ⟨i', rfl, hi3, -⟩ := toN (x := i) (hi := 59) ⟨hc1.1, by omega⟩
        have hi60 : i' < 60 := by omega
        have hcli : (nI i').toNatClampNeg = i' := cl_n i' (by omega)
        rw [if_neg (not_not_intro hc)]
        refine brt rfl ⟨hin, m_cut ?_⟩
        rw [hcli, show (sU σ 0 7 (ntV 0)) (2 + k) 1 = σ (2 + k) 1 by rw [sU_o (by omega)]]
        refine ⟨vp_in_nI hi60 (by decide), ME_of (S_X5_put_0 (nI k) (nI i') v _ (isSheet5_t hx (b1n ⟨hin, ?_⟩)))⟩
        rw [hcl, m60, cl_n (60 * k + i') (by omega)]
        have e24 : sU (sU (sU σ 0 7 (ntV 0)) (6 + k) i' (cutV v (σ (2 + k) 1))) 23 0 0 24 k = σ (2 + k) 1 := by rw [sU_o (by decide), sU_o (by omega), sU_o (by decide), s4]
        have e25 : sU (sU (sU σ 0 7 (ntV 0)) (6 + k) i' (cutV v (σ (2 + k) 1))) 23 0 0 25 k = σ (2 + k) 2 := by rw [sU_o (by decide), sU_o (by omega), sU_o (by decide), s2]
        rw [e24, e25]
        rw [s4] at n9
        have hin2 : vp_in (nI (60 * k + i')) 240 := vp_in_nI (by omega) (by decide)
        refine brn' n9 (within_t ?_ (b1n ⟨fun a => ⟨fun b => ⟨hin2, rfl, ?_⟩, fun b => ⟨hin2, rfl, ?_⟩⟩, fun a => ⟨hin2, rfl, ?_⟩⟩))
        · have t := tS (σ (2 + k) 2) 1
          have t2 := fb_rng (σ (2 + k) 2 - 1)
          have t3 : (1 : Int32).toInt = 1 := rfl
          have t4 : (0 : Int32).toInt = 0 := rfl
          omega
        · rw [e24] at a b
          have e := Rel_put (v := cutV v (σ (2 + k) 1)) (z := ntV 0) (y := 0) hR hk hi60 rfl
          rw [cutV, if_neg a, if_neg b] at e ⊢
          exact e
        · rw [e24] at a b
          have e := Rel_put (v := cutV v (σ (2 + k) 1)) (z := ntV 0) (y := 0) hR hk hi60 rfl
          rw [cutV, if_neg a, if_pos b] at e ⊢
          exact e
        · rw [e24] at a
          have e := Rel_put (v := cutV v (σ (2 + k) 1)) (z := ntV 0) (y := 0) hR hk hi60 rfl
          rw [cutV, if_pos a] at e ⊢
          exact e
      · rw [if_pos hc]
        refine brn (by decide) (ME_of (S_X5_put_0 (nI k) i v _ (isSheet5_t hx (b1n ⟨hin, ?_⟩))))
        rw [hcl]
        refine brn' n9 (within_f ?_ (b0n (m_fails ⟨rfl, Rel_note hR (fun a h0 h23 => by repeat rw [sU_o (by omega)]) rfl rfl rfl rfl rfl⟩)))
        show ¬ inR i 0 (σ 25 k - 1).toInt
        have t := tS (σ (2 + k) 2) 1
        have t2 := fb_rng (σ (2 + k) 2 - 1)
        have t3 : (1 : Int32).toInt = 1 := rfl
        rw [s2]
        rintro ⟨q1, q2⟩
        exact hc ⟨q1, by decide, by omega⟩
  · rw [tpV, if_pos hx]
    exact brn (by decide) (ME_of (S_X5_put_0 x i v _ (isSheet5_f hx (b0n ⟨rfl, Rel_n0 hR rfl⟩))))
theorem st_cell (x i lane : Int32) (hR : Rel σ) : DblL g (d + 3) M_X4_cell M_X5_cell [vI x, vI i, vI lane] σ := by
  refine ME_of (S_X4_cell_0 x i lane σ (m_troubleOfCells (m_noted ?_)))
  by_cases hx : inR x 0 3
  · obtain ⟨k, rfl, hk3, -⟩ := toN hx
    have hk : k < 4 := by omega
    have hin : vp_in (nI k) 4 := inR_in hx (by decide)
    have hcl : (nI k).toNatClampNeg = k := cl_n k (by omega)
    have hs := hR.1.1 k hk
    unfold RS1 at hs
    rw [tcV, if_neg (not_not_intro hx), hcl]
    by_cases hl : inR lane 0 2
    · rw [if_neg (not_not_intro hl), fcN]
      rcases hs with ⟨s1, s2⟩ | ⟨s1, s2, s3, s4⟩
      · rw [if_pos (by rw [s1]; decide)]
        refine brn (by decide) (ME_of (S_X5_cell_0 (nI k) i lane _ (isSheet5_t hx (b1p (isSort_t hl (b1n ⟨hin, ?_⟩))))))
        rw [hcl]
        exact brt s2 (brt' s2 (m_lost ⟨rfl, Rel_note hR (fun a h0 h23 => by repeat rw [sU_o (by omega)]) rfl rfl rfl rfl rfl⟩))
      · have n9 : ¬ σ 24 k = -9 := by rw [s4, fa_eq, tm9]; omega
        rw [if_neg (by omega)]
        by_cases hsame : σ (2 + k) 1 = lane
        · rw [if_neg (not_not_intro hsame), if_neg (by decide)]
          by_cases hc : hasC (σ (2 + k) 2) i 1
          · have hc1 : 0 ≤ i.toInt ∧ i.toInt + 1 ≤ (σ (2 + k) 2).toInt := ⟨hc.1, hc.2.2⟩
            obtain ⟨i', rfl, hi3, -⟩ := toN (x := i) (hi := 59) ⟨hc1.1, by omega⟩
            have hi60 : i' < 60 := by omega
            have hcli : (nI i').toNatClampNeg = i' := cl_n i' (by omega)
            rw [if_neg (not_not_intro hc)]
            refine brt rfl ⟨hin, vp_in_nI hi60 (by decide), ME_of (S_X5_cell_0 (nI k) (nI i') lane _ (isSheet5_t hx (b1p (isSort_t hl (b1n ⟨hin, ?_⟩)))))⟩
            rw [hcl]
            refine brn n9 (brt (by show σ 24 k = lane; rw [s4]; exact hsame) (brn' n9 (within_t ?_ (b1n ?_))))
            · show inR (nI i') 0 (σ 25 k - 1).toInt
              have t := tS (σ (2 + k) 2) 1
              have t2 := fb_rng (σ (2 + k) 2 - 1)
              have t3 : (1 : Int32).toInt = 1 := rfl
              rw [s2]
              omega
            · rw [m60, cl_n (60 * k + i') (by omega), hcli]
              refine ⟨vp_in_nI (by omega) (by decide), ?_, Rel_n0 hR rfl⟩
              show (sU σ 0 7 _ (6 + k) i').toInt64 = (σ 26 (60 * k + i')).toInt64
              rw [sU_o (by omega), hR.1.2 k i' hk hi60]
          · rw [if_pos hc]
            refine brn (by decide) (ME_of (S_X5_cell_0 (nI k) i lane _ (isSheet5_t hx (b1p (isSort_t hl (b1n ⟨hin, ?_⟩))))))
            rw [hcl]
            refine brn n9 (brt (by show σ 24 k = lane; rw [s4]; exact hsame) (brn' n9 (within_f ?_ (b0n (m_lost ⟨rfl, Rel_note hR (fun a h0 h23 => by repeat rw [sU_o (by omega)]) rfl rfl rfl rfl rfl⟩)))))
            show ¬ inR i 0 (σ 25 k - 1).toInt
            have t := tS (σ (2 + k) 2) 1
            have t2 := fb_rng (σ (2 + k) 2 - 1)
            have t3 : (1 : Int32).toInt = 1 := rfl
            rw [s2]
            rintro ⟨q1, q2⟩
            exact hc ⟨q1, by decide, by omega⟩
        · rw [if_pos hsame]
          refine brn (by decide) (ME_of (S_X5_cell_0 (nI k) i lane _ (isSheet5_t hx (b1p (isSort_t hl (b1n ⟨hin, ?_⟩))))))
          rw [hcl]
          exact brn n9 (brn (by show ¬ σ 24 k = lane; rw [s4]; exact hsame) (m_lost ⟨rfl, Rel_note hR (fun a h0 h23 => by repeat rw [sU_o (by omega)]) rfl rfl rfl rfl rfl⟩))
    · rw [if_pos hl]
      exact brn (by decide) (ME_of (S_X5_cell_0 (nI k) i lane _ (isSheet5_t hx (b1p (isSort_f hl (b0n ⟨rfl, Rel_n0 hR rfl⟩))))))
  · rw [tcV, if_pos hx]
    exact brn (by decide) (ME_of (S_X5_cell_0 x i lane _ (isSheet5_f hx (b0p ⟨rfl, Rel_n0 hR rfl⟩))))
end CELLOPS
end
section
section COPYOP
variable {g : GG} {d : Nat} {σ : St}
/-- the reference's copying, upwards -/
theorem l_copyU {F : Int32 → St → Prop} {k i o j n : Nat} {x6 : Int32} (σ0 : St) (hk : 60 * k + i + n ≤ 240) (ho : 60 * o + j + n ≤ 240) (hd : ∀ q, q < n → ¬ (60 * o + j ≤ 60 * k + i + q ∧ 60 * k + i + q < 60 * o + j + q))
    (hF : ∀ σ' : St, (∀ c, c ≠ 26 → σ' c = σ0 c) → (σ' 26 = va_cpy (σ0 26) (σ0 26) (60 * k + i) (60 * o + j) n) → F (nI n) σ') : ∀ (m q : Nat) (σ : St), q + m = n → (∀ c, c ≠ 26 → σ c = σ0 c) → σ 26 = va_cpy (σ0 26) (σ0 26) (60 * k + i) (60 * o + j) q → VM g (d + 1) M_X5_copy (qI F) 166 [(0, vR 23), (1, vI (nI k)), (2, vI (nI i)), (3, vI (nI o)), (4, vI (nI j)), (5, vI (nI n)), (6, vI x6), (7, vI 0), (8, vI (nI q))] [] σ
  | 0, q, σ, hq, h1, h2 => S_X5_copy_166 (nI k) (nI i) (nI o) (nI j) (nI n) x6 0 (nI q) σ (brt (nI_le (by omega) (by omega)) (hF σ h1 (by rw [h2, show q = n by omega])))
  | m + 1, q, σ, hq, h1, h2 => by
    refine S_X5_copy_166 (nI k) (nI i) (nI o) (nI j) (nI n) x6 0 (nI q) σ (brn (nI_ge (by omega) (by omega)) (brt rfl ?_))
    rw [m60, m60, nI_add, nI_add, cl_n _ (by omega), cl_n _ (by omega), nI_1]
    refine ⟨vp_in_nI (by omega) (by decide), vp_in_nI (by omega) (by decide), l_copyU σ0 hk ho hd hF m (q + 1) _ (by omega) (fun c hc => by rw [sU_o hc, h1 c hc]) ?_⟩
    rw [sU_s, h2]
    funext p
    have hq2 := hd q (by omega)
    simp only [upd, va_cpy]
    by_cases e : p = 60 * o + j + q
    · rw [if_pos e, if_neg hq2, if_pos (by omega)]
      congr 1
      omega
    · rw [if_neg e]
      by_cases e2 : 60 * o + j ≤ p ∧ p < 60 * o + j + q
      · rw [if_pos e2, if_pos (by omega)]
      · rw [if_neg e2, if_neg (by omega)]
/-- .. downwards -/
theorem l_copyD {F : Int32 → St → Prop} {k i o j n : Nat} {x6 : Int32} (σ0 : St) (hk : 60 * k + i + n ≤ 240) (ho : 60 * o + j + n ≤ 240) (hd : ∀ q, q < n → ¬ (60 * o + j + (n - q) ≤ 60 * k + i + (n - 1 - q) ∧ 60 * k + i + (n - 1 - q) < 60 * o + j + n))
    (hF : ∀ σ' : St, (∀ c, c ≠ 26 → σ' c = σ0 c) → (σ' 26 = va_cpy (σ0 26) (σ0 26) (60 * k + i) (60 * o + j) n) → F (nI n) σ') : ∀ (m q : Nat) (σ : St), q + m = n → (∀ c, c ≠ 26 → σ c = σ0 c) → σ 26 = va_cpy (σ0 26) (σ0 26) (60 * k + i + (n - q)) (60 * o + j + (n - q)) q → VM g (d + 1) M_X5_copy (qI F) 166 [(0, vR 23), (1, vI (nI k)), (2, vI (nI i)), (3, vI (nI o)), (4, vI (nI j)), (5, vI (nI n)), (6, vI x6), (7, vI 1), (8, vI (nI q))] [] σ
  | 0, q, σ, hq, h1, h2 => S_X5_copy_166 (nI k) (nI i) (nI o) (nI j) (nI n) x6 1 (nI q) σ (brt (nI_le (by omega) (by omega)) (hF σ h1 (by rw [h2, show q = n by omega, Nat.sub_self, Nat.add_zero, Nat.add_zero])))
  | m + 1, q, σ, hq, h1, h2 => by
    refine S_X5_copy_166 (nI k) (nI i) (nI o) (nI j) (nI n) x6 1 (nI q) σ (brn (nI_ge (by omega) (by omega)) (brn (by decide) ?_))
    have e1 : nI n - 1 - nI q = nI (n - 1 - q) := by
      show nI n - nI 1 - nI q = _
      rw [pk_sub (by omega), pk_sub (by omega)]
    rw [m60, m60, e1, nI_add, nI_add, cl_n _ (by omega), cl_n _ (by omega), nI_1]
    refine ⟨vp_in_nI (by omega) (by decide), vp_in_nI (by omega) (by decide), l_copyD σ0 hk ho hd hF m (q + 1) _ (by omega) (fun c hc => by rw [sU_o hc, h1 c hc]) ?_⟩
    rw [sU_s, h2]
    funext p
    have hq2 := hd q (by omega)
    simp only [upd, va_cpy]
    by_cases e : p = 60 * o + j + (n - 1 - q)
    · rw [if_pos e, if_neg (by omega), if_pos (by omega)]
      congr 1
      omega
    · rw [if_neg e]
      by_cases e2 : 60 * o + j + (n - q) ≤ p ∧ p < 60 * o + j + (n - q) + q
      · rw [if_pos e2, if_pos (by omega)]
        congr 1
        omega
      · rw [if_neg e2, if_neg (by omega)]
def tyV (σ : St) (x i y j n : Int32) : Int32 := if ¬ inR x 0 3 ∨ ¬ inR y 0 3 then -1 else if (σ (2 + x.toNatClampNeg) 2).toInt < 0 ∨ (σ (2 + y.toNatClampNeg) 2).toInt < 0 then -11 else if ¬ σ (2 + x.toNatClampNeg) 1 = σ (2 + y.toNatClampNeg) 1 then -12 else if ¬ hasC (σ (2 + x.toNatClampNeg) 2) i n ∨ ¬ hasC (σ (2 + y.toNatClampNeg) 2) j n then -13 else 0
theorem m_troubleOfCopy {F : Int32 → St → Prop} {x i y j n : Int32} (h : F (tyV σ x i y j n) σ) : ME g (d + 1) M_X4_troubleOfCopy [vR 0, vI x, vI i, vI y, vI j, vI n] σ (qI F) := by
  unfold tyV at h
  refine ME_of (S_X4_troubleOfCopy_0 x i y j n σ (m_isSheet (fun a => b1p (m_isSheet (fun b => b1n ⟨inR_in a (by decide), m_isNothing (tcl_lt a (by decide)) (fun c => b1n ?_) (fun c => b0n ⟨inR_in b (by decide), m_isNothing (tcl_lt b (by decide)) (fun e => b1p ?_) (fun e => b0p ⟨fun f => m_hasCells (tcl_lt a (by decide)) (fun u => b1p (m_hasCells (tcl_lt b (by decide)) (fun v => b1p ?_) (fun v => b0p ?_))) (fun u => b0p ?_), fun f => ?_⟩)⟩)⟩) (fun b => b0n ?_))) (fun a => b0p ?_)))
  · rw [if_neg (by omega), if_pos (Or.inl c)] at h; exact h
  · rw [if_neg (by omega), if_pos (Or.inr e)] at h; exact h
  · rw [if_neg (by omega), if_neg (by omega), if_neg (not_not_intro f), if_neg (fun q => q.elim (fun w => w u) (fun w => w v))] at h; exact h
  · rw [if_neg (by omega), if_neg (by omega), if_neg (not_not_intro f), if_pos (Or.inr v)] at h; exact h
  · rw [if_neg (by omega), if_neg (by omega), if_neg (not_not_intro f), if_pos (Or.inl u)] at h; exact h
  · rw [if_neg (by omega), if_neg (by omega), if_pos f] at h; exact h
  · rw [if_pos (Or.inr b)] at h; exact h
  · rw [if_pos (Or.inl a)] at h; exact h
theorem Rel_copy {k i o j n : Nat} {z y : Int32} {σ' : St} (hR : Rel σ) (hk : k < 4) (ho : o < 4) (hi : i + n ≤ 60) (hj : j + n ≤ 60) (hz : z = y) (e : ∀ c, c ≠ 26 → σ' c = (sU (fun a => if a = 6 + o then va_cpy ((sU σ 0 7 z) (6 + k)) ((sU σ 0 7 z) (6 + o)) i j n else (sU σ 0 7 z) a) 23 0 y) c) (e26 : σ' 26 = va_cpy (σ 26) (σ 26) (60 * k + i) (60 * o + j) n) : Rel σ' := by
  have key : ∀ a, a ≠ 0 → a ≠ 6 + o → a ≠ 23 → a ≠ 26 → σ' a = σ a := fun a h1 h2 h3 h4 => by rw [e a h4, sU_o h3, if_neg h2, sU_o h1]
  refine Rel_sh hR (RS_put hR.1 ho (fun a h1 h2 h3 => key a (by omega) h3 (by omega) (by omega)) (fun q hq => by rw [key 24 (by decide) (by omega) (by decide) (by decide)]) (fun q hq => by rw [key 25 (by decide) (by omega) (by decide) (by decide)]) (fun q p h1 h2 h3 => ?_) ?_ (fun p hp => ?_)) (fun a h1 h2 h3 h4 h5 => key a (by omega) (by omega) h2 h5) ?_ ?_ ?_ ?_ ?_
  · rw [e26]
    simp only [va_cpy]
    rw [if_neg (by omega)]
  · have := hR.1.1 o ho
    unfold RS1 at *
    rw [key (2 + o) (by omega) (by omega) (by omega) (by omega), key 24 (by decide) (by omega) (by decide) (by decide), key 25 (by decide) (by omega) (by decide) (by decide)]
    exact this
  · rw [e _ (by omega), sU_o (by omega), if_pos rfl, e26, sU_o (by omega), sU_o (by omega)]
    simp only [va_cpy]
    by_cases q : j ≤ p ∧ p < j + n
    · rw [if_pos q, if_pos (by omega), hR.1.2 k _ hk (by omega)]
      congr 1
      omega
    · rw [if_neg q, if_neg (by omega), hR.1.2 o p ho hp]
  · rw [e 0 (by decide), sU_o (by decide), if_neg (by omega), sU_s]; rfl
  · rw [e 23 (by decide), sU_s]; show (if 23 = 6 + o then _ else _ : Nat → Int32) 1 = _; rw [if_neg (by omega), sU_o (by decide)]
  · rw [e 23 (by decide), sU_s]; show (if 23 = 6 + o then _ else _ : Nat → Int32) 5 = _; rw [if_neg (by omega), sU_o (by decide)]
  · rw [e 23 (by decide), sU_s]; show (if 23 = 6 + o then _ else _ : Nat → Int32) 18 = _; rw [if_neg (by omega), sU_o (by decide)]
  · rw [e 0 (by decide), sU_o (by decide), if_neg (by omega), sU_s, e 23 (by decide), sU_s]; exact hz
theorem st_copy (x i y j n : Int32) (hR : Rel σ) : Dbl g (d + 2) M_X4_copy M_X5_copy [vI x, vI i, vI y, vI j, vI n] σ := by
  refine ME_of (S_X4_copy_0 x i y j n σ (m_troubleOfCopy (m_noted ?_)))
  unfold tyV
  by_cases hx : inR x 0 3
  · by_cases hy : inR y 0 3
    · rw [if_neg (by omega)]
      obtain ⟨k, rfl, hk3, -⟩ := toN hx
      obtain ⟨o, rfl, ho3, -⟩ := toN hy
      have hk : k < 4 := by omega
      have ho : o < 4 := by omega
      have hin : vp_in (nI k) 4 := inR_in hx (by decide)
      have hin2 : vp_in (nI o) 4 := inR_in hy (by decide)
      have hcl : (nI k).toNatClampNeg = k := cl_n k (by omega)
      have hcl2 : (nI o).toNatClampNeg = o := cl_n o (by omega)
      rw [hcl, hcl2]
      have hs := hR.1.1 k hk
      have hs2 := hR.1.1 o ho
      unfold RS1 at hs hs2
      have fl : ∀ (c : Int32), Rel (sU (sU (sU σ 0 7 c) 23 0 0) 23 0 c) := fun c => Rel_note hR (fun a h0 h23 => by repeat rw [sU_o (by omega)]) rfl rfl rfl rfl rfl
      rcases hs with ⟨s1, s2⟩ | ⟨s1, s2, s3, s4⟩
      · rw [if_pos (Or.inl (by rw [s1]; decide))]
        refine brn (by decide) (ME_of (S_X5_copy_0 (nI k) i (nI o) j n _ (isSheet5_t hx (b1p (isSheet5_t hy (b1n ⟨hin, ?_⟩))))))
        rw [hcl]
        exact brt s2 (m_fails ⟨rfl, fl 1⟩)
      · have n9 : ¬ σ 24 k = -9 := by rw [s4, fa_eq, tm9]; omega
        rcases hs2 with ⟨u1, u2⟩ | ⟨u1, u2, u3, u4⟩
        · rw [if_pos (Or.inr (by rw [u1]; decide))]
          refine brn (by decide) (ME_of (S_X5_copy_0 (nI k) i (nI o) j n _ (isSheet5_t hx (b1p (isSheet5_t hy (b1n ⟨hin, ?_⟩))))))
          rw [hcl, hcl2]
          exact brn n9 ⟨hin2, brt' u2 (m_fails ⟨rfl, fl 1⟩)⟩
        · have n92 : ¬ σ 24 o = -9 := by rw [u4, fa_eq, tm9]; omega
          rw [if_neg (by omega)]
          by_cases hl : σ (2 + k) 1 = σ (2 + o) 1
          · rw [if_neg (not_not_intro hl)]
            have hl2 : σ 24 k = σ 24 o := by rw [s4, u4, hl]
            have t1 := tS (σ (2 + k) 2) i
            have t2 := tS (σ (2 + o) 2) j
            have r1 := fb_rng (σ (2 + k) 2 - i)
            have r2 := fb_rng (σ (2 + o) 2 - j)
            have r3 := fb_rng i
            have r4 := fb_rng j
            have r5 := fb_rng n
            have z0 : (0 : Int32).toInt = 0 := rfl
            by_cases hh : ¬ hasC (σ (2 + k) 2) i n ∨ ¬ hasC (σ (2 + o) 2) j n
            · rw [if_pos hh]
              refine brn (by decide) (ME_of (S_X5_copy_0 (nI k) i (nI o) j n _ (isSheet5_t hx (b1p (isSheet5_t hy (b1n ⟨hin, ?_⟩))))))
              rw [hcl, hcl2]
              have e25k : sU (sU σ 0 7 (ntV (-13))) 23 0 0 25 k = σ (2 + k) 2 := s2
              have e25o : sU (sU σ 0 7 (ntV (-13))) 23 0 0 25 o = σ (2 + o) 2 := u2
              rw [e25k, e25o]
              have ff : ME g (d + 1) M_X5_fails [vR 23, vI 3] (sU (sU σ 0 7 (ntV (-13))) 23 0 0) (qI fun r2 σ2 => -13 = r2 ∧ Rel σ2) := m_fails ⟨rfl, fl 3⟩
              refine brn n9 ⟨hin2, brn' n92 (brt hl2 ⟨fun _ => ff, fun a1 => ⟨fun _ => ff, fun a2 => ⟨fun _ => ff, fun a3 => ⟨fun _ => ff, fun a4 => ⟨fun _ => ff, fun a5 => ⟨fun _ => ff, fun a6 => ⟨fun a7 => ?_, fun _ => ff⟩⟩⟩⟩⟩⟩⟩)⟩
              exfalso
              clear ff fl
              simp only [fa_lt, fa_le, z0] at a1 a2 a3 a4 a5 a6 a7
              omega
            · rw [if_neg hh]
              have h1 : hasC (σ (2 + k) 2) i n := Decidable.not_not.mp (fun q => hh (Or.inl q))
              have h2 : hasC (σ (2 + o) 2) j n := Decidable.not_not.mp (fun q => hh (Or.inr q))
              obtain ⟨i', rfl, hi3, ib⟩ := toN (x := i) (hi := 60) ⟨h1.1, by omega⟩
              obtain ⟨j', rfl, hj3, jb⟩ := toN (x := j) (hi := 60) ⟨h2.1, by omega⟩
              obtain ⟨n', rfl, hn3, nb⟩ := toN (x := n) (hi := 60) ⟨h1.2.1, by omega⟩
              have vi := nI_v ib
              have vj := nI_v jb
              have vn := nI_v nb
              have ik : i' + n' ≤ 60 := by omega
              have jo : j' + n' ≤ 60 := by omega
              refine brt rfl ⟨hin, hin2, by rw [fa_lt, z0]; omega, by rw [fa_lt, z0]; omega, by rw [fa_lt, z0]; omega, ?_⟩
              rw [cl_n i' ib, cl_n j' jb, cl_n n' nb]
              refine ⟨ik, jo, ME_of (S_X5_copy_0 (nI k) (nI i') (nI o) (nI j') (nI n') _ (isSheet5_t hx (b1p (isSheet5_t hy (b1n ⟨hin, ?_⟩)))))⟩
              rw [hcl, hcl2]
              have g24 : ∀ q, (sU (fun a => if a = 6 + o then va_cpy ((sU σ 0 7 (ntV 0)) (6 + k)) ((sU σ 0 7 (ntV 0)) (6 + o)) i' j' n' else (sU σ 0 7 (ntV 0)) a) 23 0 0) 24 q = σ 24 q := fun q => by rw [sU_o (by decide), if_neg (by omega), sU_o (by decide)]
              have g25 : ∀ q, (sU (fun a => if a = 6 + o then va_cpy ((sU σ 0 7 (ntV 0)) (6 + k)) ((sU σ 0 7 (ntV 0)) (6 + o)) i' j' n' else (sU σ 0 7 (ntV 0)) a) 23 0 0) 25 q = σ 25 q := fun q => by rw [sU_o (by decide), if_neg (by omega), sU_o (by decide)]
              have g26 : (sU (fun a => if a = 6 + o then va_cpy ((sU σ 0 7 (ntV 0)) (6 + k)) ((sU σ 0 7 (ntV 0)) (6 + o)) i' j' n' else (sU σ 0 7 (ntV 0)) a) 23 0 0) 26 = σ 26 := by rw [sU_o (by decide), if_neg (by omega), sU_o (by decide)]
              rw [g24, g24, g25, g25, s2, u2]
              refine brn n9 ⟨hin2, brn' n92 (brt hl2 (brn (by rw [fa_lt, z0]; omega) (brn (by rw [fa_lt, z0]; omega) (brn (by rw [fa_lt, z0]; omega) (brn (by rw [fa_lt]; omega) (brn (by rw [fa_lt]; omega) (brn (by rw [fa_lt]; omega) (brt (by rw [fa_le]; omega) ⟨fun q => ?_, fun q => ?_⟩))))))))⟩
              · rw [fa_le] at q
                refine l_copyU _ (by omega) (by omega) (fun w hw => ?_) (fun σ' f1 f2 => ⟨rfl, Rel_copy hR hk ho ik jo rfl f1 (by rw [f2, g26])⟩) n' 0 _ (by omega) (fun _ _ => rfl) ?_
                · by_cases ek : k = o
                  · subst ek; omega
                  · omega
                · funext p
                  simp only [va_cpy]
                  rw [if_neg (by omega)]
              · rw [fa_le] at q
                refine l_copyD _ (by omega) (by omega) (fun w hw => ?_) (fun σ' f1 f2 => ⟨rfl, Rel_copy hR hk ho ik jo rfl f1 (by rw [f2, g26])⟩) n' 0 _ (by omega) (fun _ _ => rfl) ?_
                · by_cases ek : k = o
                  · subst ek; omega
                  · omega
                · funext p
                  simp only [va_cpy]
                  rw [if_neg (by omega)]
          · rw [if_pos hl]
            refine brn (by decide) (ME_of (S_X5_copy_0 (nI k) i (nI o) j n _ (isSheet5_t hx (b1p (isSheet5_t hy (b1n ⟨hin, ?_⟩))))))
            rw [hcl, hcl2]
            exact brn n9 ⟨hin2, brn' n92 (brn (by show ¬ σ 24 k = σ 24 o; rw [s4, u4]; exact hl) (m_fails ⟨rfl, fl 2⟩))⟩
    · rw [if_pos (Or.inr hy)]
      exact brn (by decide) (ME_of (S_X5_copy_0 x i y j n _ (isSheet5_t hx (b1p (isSheet5_f hy (b0n ⟨rfl, Rel_n0 hR rfl⟩))))))
  · rw [if_pos (Or.inl hx)]
    exact brn (by decide) (ME_of (S_X5_copy_0 x i y j n _ (isSheet5_f hx (b0p ⟨rfl, Rel_n0 hR rfl⟩))))
end COPYOP
end
section
/-! the TEXT of a COURT -/
/-- with the code c at this place a TEXT goes on -/
def gOn (q : Nat) (c : Int32) : Bool := if q = 0 then decide (c = 109) else if 20 < q then false else if (q - 1) % 4 = 0 then decide (c = 59) else if (q - 1) % 4 = 1 then decide (c = 104 ∨ c = 108 ∨ c = 115) else if (q - 1) % 4 = 2 then decide (inR c 49 57) else decide (inR c 48 53)
/-- the class's first fault: m places are left, from q on -/
def ffN (tx : Nat → Int32) (n : Nat) : Nat → Nat → Int32
  | 0, _ => if 8 < n ∧ (n - 1) % 4 = 0 then -9 else nI n
  | m + 1, q => if gOn q (tx q) = true then ffN tx n m (q + 1) else nI q
def kdL (c : Int32) : Int32 := if c = 115 then 2 else if c = 108 then 1 else 0
section TEXT
variable {g : GG} {d : Nat} {σ : St} {F : Int32 → St → Prop}
theorem m_goesOn {q : Nat} {c : Int32} (hq : q < 60) (h1 : gOn q c = true → F 1 σ) (h0 : gOn q c = false → F 0 σ) : ME g d M_X4_goesOn [vI (nI q), vI c] σ (qI F) := by
  have vq := nI_v (n := q) (by omega)
  refine ME_of (S_X4_goesOn_0 (nI q) c σ ⟨fun a => ?_, fun a => ?_⟩)
  · have q0 : q ≠ 0 := fun e => a (by rw [e]; rfl)
    have e : (nI q - 1) - (nI q - 1) / 4 * 4 = nI ((q - 1) % 4) := by
      show (nI q - nI 1) - (nI q - nI 1) / nI 4 * nI 4 = _
      rw [pk_sub (by omega), pk_rem (by omega) (by decide) (by decide)]
    rw [e]
    have el : ∀ z : Nat, z < 10 → ((nI ((q - 1) % 4) = nI z) ↔ (q - 1) % 4 = z) := fun z hz => nI_eq (by omega) (by omega)
    have e0 := el 0 (by decide)
    have e1 := el 1 (by decide)
    have e2 := el 2 (by decide)
    refine ⟨fun b => ?_, fun b => ?_⟩
    · have b20 : ¬ 20 < q := by rw [fa_le] at b; simp at b; omega
      refine ⟨fun c0 => ?_, fun c0 => ⟨fun c1 => ?_, fun c1 => ⟨fun c2 => ?_, fun c2 => ?_⟩⟩⟩
      · have f0 : (q - 1) % 4 = 0 := e0.mp c0
        have gg : gOn q c = decide (c = 59) := by rw [gOn, if_neg q0, if_neg b20, if_pos f0]
        exact ⟨fun x => h0 (by rw [gg]; simpa using x), fun x => h1 (by rw [gg]; simpa using x)⟩
      · have f0 : ¬ (q - 1) % 4 = 0 := fun x => c0 (e0.mpr x)
        have f1 : (q - 1) % 4 = 1 := e1.mp c1
        have gg : gOn q c = decide (c = 104 ∨ c = 108 ∨ c = 115) := by rw [gOn, if_neg q0, if_neg b20, if_neg f0, if_pos f1]
        exact ⟨fun x => h1 (by rw [gg]; simp [x]), fun x => ⟨fun y => h1 (by rw [gg]; simp [y]), fun y => ⟨fun z => h0 (by rw [gg]; simp [x, y, z]), fun z => h1 (by rw [gg]; simp [z])⟩⟩⟩
      · have f0 : ¬ (q - 1) % 4 = 0 := fun x => c0 (e0.mpr x)
        have f1 : ¬ (q - 1) % 4 = 1 := fun x => c1 (e1.mpr x)
        have f2 : (q - 1) % 4 = 2 := e2.mp c2
        have gg : gOn q c = decide (inR c 49 57) := by rw [gOn, if_neg q0, if_neg b20, if_neg f0, if_neg f1, if_pos f2]
        refine ⟨fun x => h0 ?_, fun x => ⟨fun y => h0 ?_, fun y => h1 ?_⟩⟩
        · rw [gg, decide_eq_false_iff_not]; rw [fa_lt] at x; simp at x; omega
        · rw [gg, decide_eq_false_iff_not]; rw [fa_lt] at y; simp at y; omega
        · rw [gg, decide_eq_true_eq]; rw [fa_lt] at x y; simp at x y; omega
      · have f0 : ¬ (q - 1) % 4 = 0 := fun x => c0 (e0.mpr x)
        have f1 : ¬ (q - 1) % 4 = 1 := fun x => c1 (e1.mpr x)
        have f2 : ¬ (q - 1) % 4 = 2 := fun x => c2 (e2.mpr x)
        have gg : gOn q c = decide (inR c 48 53) := by rw [gOn, if_neg q0, if_neg b20, if_neg f0, if_neg f1, if_neg f2]
        refine ⟨fun x => h0 ?_, fun x => ⟨fun y => h0 ?_, fun y => h1 ?_⟩⟩
        · rw [gg, decide_eq_false_iff_not]; rw [fa_lt] at x; simp at x; omega
        · rw [gg, decide_eq_false_iff_not]; rw [fa_lt] at y; simp at y; omega
        · rw [gg, decide_eq_true_eq]; rw [fa_lt] at x y; simp at x y; omega
    · exact h0 (by rw [gOn, if_neg q0, if_pos (by rw [fa_le] at b; simp at b; omega)])
  · have q0 : q = 0 := by rw [fa_eq, vq] at a; simp at a; omega
    have gg : gOn q c = decide (c = 109) := by rw [gOn, if_pos q0]
    exact ⟨fun x => h0 (by rw [gg]; simpa using x), fun x => h1 (by rw [gg]; simpa using x)⟩
theorem l_firstFault {k i n : Nat} (hk : k < 4) (hn : i + n ≤ 60) (hF : F (ffN (fun q => σ (6 + k) (i + q)) n n 0) σ) : ∀ m q : Nat, q + m = n → ffN (fun q => σ (6 + k) (i + q)) n m q = ffN (fun q => σ (6 + k) (i + q)) n n 0 → VM g (d + 1) M_X4_firstFault (qI F) 2 [(0, vR (2 + k)), (1, vI (nI i)), (2, vI (nI n)), (3, vI (nI q))] [] σ
  | 0, q, hq, e => by
    have vn := nI_v (n := n) (by omega)
    refine S_X4_firstFault_2 hk (nI i) (nI n) (nI q) σ (brt (nI_le (by omega) (by omega)) ?_)
    rw [← e, ffN] at hF
    refine ⟨fun a => ?_, fun a => ?_⟩
    · rw [if_neg (by rw [fa_le, vn] at a; simp at a; omega)] at hF
      exact hF
    · have a' : 8 < n := by rw [fa_le, vn] at a; simp at a; omega
      have er : (nI n - 1) - (nI n - 1) / 4 * 4 = nI ((n - 1) % 4) := by
        show (nI n - nI 1) - (nI n - nI 1) / nI 4 * nI 4 = _
        rw [pk_sub (by omega), pk_rem (by omega) (by decide) (by decide)]
      rw [er]
      have el : ((nI ((n - 1) % 4) = nI 0) ↔ (n - 1) % 4 = 0) := nI_eq (by omega) (by omega)
      refine ⟨fun b => ?_, fun b => ?_⟩
      · rw [if_neg (fun q => b (el.mpr q.2))] at hF
        exact hF
      · rw [if_pos ⟨a', el.mp b⟩] at hF
        exact hF
  | m + 1, q, hq, e => by
    refine S_X4_firstFault_2 hk (nI i) (nI n) (nI q) σ (brn (nI_ge (by omega) (by omega)) ?_)
    rw [nI_add, cl_n _ (by omega), nI_1]
    refine ⟨vp_in_nI (by omega) (by decide), m_goesOn (by omega) (fun a => b1n ?_) (fun a => b0n ?_)⟩
    · rw [ffN, if_pos a] at e
      exact l_firstFault hk hn hF m (q + 1) (by omega) e
    · rw [ffN, if_neg (by rw [a]; decide)] at e
      rw [← e] at hF
      exact hF
theorem m_firstFault {k i n : Nat} (hk : k < 4) (hn : i + n ≤ 60) (hF : F (ffN (fun q => σ (6 + k) (i + q)) n n 0) σ) : ME g (d + 1) M_X4_firstFault [vR (2 + k), vI (nI i), vI (nI n)] σ (qI F) :=
  ME_of (S_X4_firstFault_0 hk (nI i) (nI n) σ (l_firstFault hk hn hF n 0 (by omega) rfl))
theorem m_kindOfLetter {c : Int32} (h : F (kdL c) σ) : ME g d M_X4_kindOfLetter [vI c] σ (qI F) := by
  refine ME_of (S_X4_kindOfLetter_0 c σ ⟨fun a => ⟨fun b => ?_, fun b => ?_⟩, fun a => ?_⟩)
  · rw [kdL, if_neg a, if_neg b] at h; exact h
  · rw [kdL, if_neg a, if_pos b] at h; exact h
  · rw [kdL, if_pos a] at h; exact h
/-- the heads are gathered out of the TEXT -/
theorem l_gather {G : St → Prop} {k i m : Nat} {x3 : Int32} (hk : k < 4) (hm : m ≤ 5) (hi : i + (1 + 4 * m) ≤ 60) (σ0 : St) (h10 : σ0 10 3 = nI m)
    (hF : ∀ σ' : St, (∀ c, c ≠ 11 → c ≠ 12 → c ≠ 13 → σ' c = σ0 c) → (∀ p, p < m → σ' 11 p = kdL (σ0 (6 + k) (i + (4 * p + 2))) ∧ σ' 12 p = σ0 (6 + k) (i + (4 * p + 3)) - 48 ∧ σ' 13 p = σ0 (6 + k) (i + (4 * p + 4)) - 48) → G σ') :
    ∀ (r p : Nat) (σ : St), p + r = m → (∀ c, c ≠ 11 → c ≠ 12 → c ≠ 13 → σ c = σ0 c) → (∀ q, q < p → σ 11 q = kdL (σ0 (6 + k) (i + (4 * q + 2))) ∧ σ 12 q = σ0 (6 + k) (i + (4 * q + 3)) - 48 ∧ σ 13 q = σ0 (6 + k) (i + (4 * q + 4)) - 48) → VM g (d + 1) M_X0_gather (qV G) 12 [(0, vR 10), (1, vR (2 + k)), (2, vI (nI i)), (3, vI x3), (4, vI (nI p))] [] σ
  | 0, p, σ, hp, h1, h2 => S_X0_gather_12 hk (nI i) x3 (nI p) σ (brt (by rw [h1 10 (by decide) (by decide) (by decide), h10]; exact nI_le (by omega) (by omega)) (hF σ h1 (fun q hq => h2 q (by omega))))
  | r + 1, p, σ, hp, h1, h2 => by
    refine S_X0_gather_12 hk (nI i) x3 (nI p) σ (brn (by rw [h1 10 (by decide) (by decide) (by decide), h10]; exact nI_ge (by omega) (by omega)) ?_)
    have e2 : nI i + nI p * 4 + 2 = nI (i + (4 * p + 2)) := by
      show nI i + nI p * nI 4 + nI 2 = _
      rw [pk_mul, nI_add, nI_add]
      congr 1
      omega
    have e3 : nI (i + (4 * p + 2)) + 1 = nI (i + (4 * p + 3)) := by
      show nI (i + (4 * p + 2)) + nI 1 = _
      rw [nI_add]
      congr 1
    have e4 : nI (i + (4 * p + 2)) + 2 = nI (i + (4 * p + 4)) := by
      show nI (i + (4 * p + 2)) + nI 2 = _
      rw [nI_add]
      congr 1
    have s6 : σ (6 + k) = σ0 (6 + k) := h1 _ (by omega) (by omega) (by omega)
    rw [e2, e3, e4, cl_n (i + (4 * p + 2)) (by omega), cl_n (i + (4 * p + 3)) (by omega), cl_n (i + (4 * p + 4)) (by omega), cl_n p (by omega), nI_1]
    refine ⟨vp_in_nI (by omega) (by decide), m_kindOfLetter ⟨vp_in_nI (by omega) (by decide), vp_in_nI (by omega) (by decide), vp_in_nI (by omega) (by decide), l_gather hk hm hi σ0 h10 hF r (p + 1) _ (by omega) (fun c c1 c2 c3 => by rw [sU_o c3, sU_o c2, sU_o c1, h1 c c1 c2 c3]) (fun q hq => ?_)⟩⟩
    rw [sU_o (show 6 + k ≠ 12 by omega), sU_o (show 6 + k ≠ 11 by omega), s6]
    by_cases e : q = p
    · subst e
      exact ⟨by simp [sU, upd], by simp [sU, upd], by simp [sU, upd]⟩
    · have := h2 q (by omega)
      simpa [sU, upd, e] using this
end TEXT
end
section
/-! the reference reads a TEXT: its codes stand at the cells S .. S + n of its row of cells -/
def FrP (σ σ' : St) : Prop := (∀ a, a ≠ 30 → a ≠ 23 → σ' a = σ a) ∧ ∀ i, i ≠ 9 → i ≠ 10 → σ' 23 i = σ 23 i
theorem FrP.rf (σ : St) : FrP σ σ := ⟨fun _ _ _ => rfl, fun _ _ _ => rfl⟩
theorem FrP.tr {a b c : St} (h1 : FrP a b) (h2 : FrP b c) : FrP a c := ⟨fun x p q => (h2.1 x p q).trans (h1.1 x p q), fun x p q => (h2.2 x p q).trans (h1.2 x p q)⟩
theorem FrP.at (σ : St) (x : Int32) : FrP σ (sU σ 23 9 x) := ⟨fun a _ h => sU_o h, fun i h _ => by rw [sU_s]; simp [upd, h]⟩
theorem FrP.rm (σ : St) (x : Int32) : FrP σ (sU σ 23 10 x) := ⟨fun a _ h => sU_o h, fun i _ h => by rw [sU_s]; simp [upd, h]⟩
theorem FrP.rd (σ : St) (p : Nat) (x : Int32) : FrP σ (sU σ 30 p x) := ⟨fun a h _ => sU_o h, fun i _ _ => by rw [sU_o (by decide)]⟩
/-- the code at the place q is there, and with it a TEXT goes on -/
def good (σ : St) (S n q : Nat) : Prop := q < n ∧ gOn q (σ 26 (S + q)) = true
theorem good_fr {σ σ' : St} (h : FrP σ σ') {S n q : Nat} : good σ' S n q ↔ good σ S n q := by
  unfold good
  rw [h.1 26 (by decide) (by decide)]
section PARSE
variable {g : GG} {d : Nat} {F : Int32 → St → Prop} {S n : Nat}
theorem m_isSign {σ : St} {q : Nat} {c : Int32} (hS : S + n ≤ 240) (hq : q ≤ n) (hat : σ 23 9 = nI (S + q)) (h1 : q < n → σ 26 (S + q) = c → F 1 (sU σ 23 9 (nI (S + (q + 1))))) (h0 : ¬ (q < n ∧ σ 26 (S + q) = c) → F 0 σ) : ME g d M_X5_isSign [vR 23, vI (nI (S + n)), vI c] σ (qI F) := by
  refine ME_of (S_X5_isSign_0 (nI (S + n)) c σ ?_)
  rw [hat, cl_n _ (by omega), nI_1]
  refine ⟨fun a => h0 (fun z => nI_ge (a := S + q) (b := S + n) (by omega) (by omega) a), fun a => ⟨vp_in_nI ?_ (by decide), fun b => h1 ?_ b, fun b => h0 (fun z => b z.2)⟩⟩
  · rcases Nat.lt_or_ge q n with z | z
    · omega
    · exact absurd (nI_le (a := S + n) (b := S + q) (by omega) (by omega)) a
  · rcases Nat.lt_or_ge q n with z | z
    · exact z
    · exact absurd (nI_le (a := S + n) (b := S + q) (by omega) (by omega)) a
theorem m_digit {σ : St} {q lo hi : Nat} (hS : S + n ≤ 240) (hq : q ≤ n) (hlo : lo ≤ 9) (hhi : hi ≤ 9) (hat : σ 23 9 = nI (S + q)) (h1 : q < n → inR (σ 26 (S + q)) (48 + lo) (48 + hi) → F (σ 26 (S + q) - 48) (sU σ 23 9 (nI (S + (q + 1))))) (h0 : ¬ (q < n ∧ inR (σ 26 (S + q)) (48 + lo) (48 + hi)) → F (-9) σ) : ME g (d + 1) M_X5_digit [vR 23, vI (nI (S + n)), vI (nI lo), vI (nI hi)] σ (qI F) := by
  have v1 : ((48 : Int32) + nI lo).toInt = 48 + lo := by
    show (nI 48 + nI lo).toInt = _
    rw [nI_add, nI_v (by omega)]
    omega
  have v2 : ((48 : Int32) + nI hi).toInt = 48 + hi := by
    show (nI 48 + nI hi).toInt = _
    rw [nI_add, nI_v (by omega)]
    omega
  refine ME_of (S_X5_digit_0 (nI (S + n)) (nI lo) (nI hi) σ ?_)
  rw [hat, cl_n _ (by omega)]
  refine ⟨fun a => h0 (fun z => nI_ge (a := S + q) (b := S + n) (by omega) (by omega) a), fun a => ?_⟩
  have hqn : q < n := by
    rcases Nat.lt_or_ge q n with z | z
    · exact z
    · exact absurd (nI_le (a := S + n) (b := S + q) (by omega) (by omega)) a
  refine ⟨vp_in_nI (by omega) (by decide), m_within (fun b => b1n ?_) (fun b => b0n (h0 (fun z => b (by rw [v1, v2]; exact z.2))))⟩
  have e1 : σ 23 9 + 1 - 1 = nI (S + q) := by rw [hat, nI_1, nI_pred]
  rw [e1, cl_n _ (by omega), hat, nI_1]
  refine ⟨vp_in_nI (by omega) (by decide), h1 hqn ?_⟩
  rw [v1, v2] at b
  exact b
/-- readHead, once its letter is known -/
theorem rh_tail {σ : St} {q m : Nat} {kd : Int32} (hS : S + n ≤ 240) (hm : m < 5) (hq : q = 4 * m + 2) (hqn : q < n) (hat : σ 23 9 = nI (S + q)) (hrm : σ 23 10 = nI m) (hk9 : ¬ kd = -9) (hk : kd = kdL (σ 26 (S + q))) (hg : good σ S n q)
    (hbad : ∀ f, q ≤ f → f ≤ q + 2 → (∀ p, q ≤ p → p < f → good σ S n p) → ¬ good σ S n f → f ≤ n → ∀ σ', FrP σ σ' → σ' 23 9 = nI (S + f) → F 0 σ')
    (hgood : good σ S n (q + 1) → good σ S n (q + 2) → ∀ σ', FrP σ σ' → σ' 23 9 = nI (S + (q + 3)) → σ' 23 10 = nI (m + 1) → σ' 30 (3 * m) = kdL (σ 26 (S + q)) → σ' 30 (3 * m + 1) = σ 26 (S + (q + 1)) - 48 → σ' 30 (3 * m + 2) = σ 26 (S + (q + 2)) - 48 → (∀ p, p < 3 * m → σ' 30 p = σ 30 p) → F 1 σ') :
    (vp_in (3 * (σ 23 10)) 15 ∧ ((¬ ((sU σ 30 ((3 * (σ 23 10)).toNatClampNeg) kd) 30 ((3 * (σ 23 10)).toNatClampNeg)) = (-9) → (ME g (d + 1) M_X5_digit [vR 23, vI (nI (S + n)), vI 1, vI 9] (sU (sU σ 30 ((3 * (σ 23 10)).toNatClampNeg) kd) 23 9 ((σ 23 9) + 1)) (qI (fun r6 σ7 => (vp_in ((3 * (σ 23 10)) + 1) 15 ∧ ((¬ ((sU σ7 30 (((3 * (σ 23 10)) + 1).toNatClampNeg) r6) 30 (((3 * (σ 23 10)) + 1).toNatClampNeg)) = (-9) → (ME g (d + 1) M_X5_digit [vR 23, vI (nI (S + n)), vI 0, vI 5] (sU σ7 30 (((3 * (σ 23 10)) + 1).toNatClampNeg) r6) (qI (fun r10 σ11 => (vp_in ((3 * (σ 23 10)) + 2) 15 ∧ ((((sU σ11 30 (((3 * (σ 23 10)) + 2).toNatClampNeg) r10) 30 (((3 * (σ 23 10)) + 2).toNatClampNeg)) = (-9) → F 0 (sU (sU σ11 30 (((3 * (σ 23 10)) + 2).toNatClampNeg) r10) 23 10 ((σ11 23 10) + 1))) ∧ (¬ ((sU σ11 30 (((3 * (σ 23 10)) + 2).toNatClampNeg) r10) 30 (((3 * (σ 23 10)) + 2).toNatClampNeg)) = (-9) → F 1 (sU (sU σ11 30 (((3 * (σ 23 10)) + 2).toNatClampNeg) r10) 23 10 ((σ11 23 10) + 1))))))))) ∧ (((sU σ7 30 (((3 * (σ 23 10)) + 1).toNatClampNeg) r6) 30 (((3 * (σ 23 10)) + 1).toNatClampNeg)) = (-9) → F 0 (sU σ7 30 (((3 * (σ 23 10)) + 1).toNatClampNeg) r6)))))))) ∧ (((sU σ 30 ((3 * (σ 23 10)).toNatClampNeg) kd) 30 ((3 * (σ 23 10)).toNatClampNeg)) = (-9) → F 0 (sU σ 30 ((3 * (σ 23 10)).toNatClampNeg) kd)))) := by
  have rr : ∀ (τ : St) (p : Nat) (v : Int32), (sU τ 30 p v) 30 p = v := fun τ p v => by rw [sU_s]; simp [upd]
  have e3 : (3 : Int32) * nI m = nI (3 * m) := pk_mul 3 m
  have e31 : nI (3 * m) + 1 = nI (3 * m + 1) := nI_1 _
  have e32 : nI (3 * m) + 2 = nI (3 * m + 2) := nI_add (3 * m) 2
  have h26 : ∀ x y : Int32, (sU (sU σ 30 (3 * m) x) 23 9 y) 26 = σ 26 := fun x y => by rw [sU_o (by decide), sU_o (by decide)]
  have dg : ∀ z : Int32, ∀ lo : Int, 48 ≤ lo → inR z lo 57 → ¬ z - 48 = -9 := by
    intro z lo hlo hz e
    have t := tS z 48
    have t2 : (48 : Int32).toInt = 48 := rfl
    rw [fa_eq, tm9] at e
    omega
  rw [hrm, e3, e31, e32, cl_n (3 * m) (by omega), cl_n (3 * m + 1) (by omega), cl_n (3 * m + 2) (by omega), hat, nI_1]
  refine ⟨vp_in_nI (by omega) (by decide), brn' (by rw [rr]; exact hk9) ?_⟩
  have fr1 : FrP σ (sU (sU σ 30 (3 * m) kd) 23 9 (nI (S + q + 1))) := (FrP.rd σ _ _).tr (FrP.at _ _)
  refine m_digit (q := q + 1) (lo := 1) (hi := 9) hS (by omega) (by decide) (by decide) rfl (fun a b => ?_) (fun a => ?_)
  · rw [h26] at b ⊢
    have gq1 : good σ S n (q + 1) := by
      refine ⟨a, ?_⟩
      rw [gOn, if_neg (by omega), if_neg (by omega), if_neg (by omega), if_neg (by omega), if_pos (by omega), decide_eq_true_eq]
      exact b
    refine ⟨vp_in_nI (by omega) (by decide), brn' (by rw [rr]; exact dg _ 49 (by decide) b) ?_⟩
    have fr2 : FrP σ (sU (sU (sU (sU σ 30 (3 * m) kd) 23 9 (nI (S + q + 1))) 23 9 (nI (S + (q + 1 + 1)))) 30 (3 * m + 1) (σ 26 (S + (q + 1)) - 48)) := (fr1.tr (FrP.at _ _)).tr (FrP.rd _ _ _)
    have h26' : (sU (sU (sU (sU σ 30 (3 * m) kd) 23 9 (nI (S + q + 1))) 23 9 (nI (S + (q + 1 + 1)))) 30 (3 * m + 1) (σ 26 (S + (q + 1)) - 48)) 26 = σ 26 := fr2.1 26 (by decide) (by decide)
    refine m_digit (q := q + 2) (lo := 0) (hi := 5) hS (by omega) (by decide) (by decide) rfl (fun a2 b2 => ?_) (fun a2 => ?_)
    · rw [h26'] at b2 ⊢
      have gq2 : good σ S n (q + 2) := by
        refine ⟨a2, ?_⟩
        rw [gOn, if_neg (by omega), if_neg (by omega), if_neg (by omega), if_neg (by omega), if_neg (by omega), decide_eq_true_eq]
        exact b2
      refine ⟨vp_in_nI (by omega) (by decide), brn (by rw [rr]; exact dg _ 48 (by decide) ⟨b2.1, by have := b2.2; omega⟩) (hgood gq1 gq2 _ (((fr2.tr (FrP.at _ _)).tr (FrP.rd _ _ _)).tr (FrP.rm _ _)) rfl ?_ ?_ ?_ ?_ (fun p hp => ?_))⟩
      · show σ 23 10 + 1 = _
        rw [hrm, nI_1]
      · rw [sU_o (by decide), sU_s]
        simp only [upd]
        rw [if_neg (by omega), sU_o (by decide), sU_s]
        simp only [upd]
        rw [if_neg (by omega), sU_o (by decide), sU_o (by decide), sU_s]
        simp [upd, hk]
      · rw [sU_o (by decide), sU_s]
        simp only [upd]
        rw [if_neg (by omega), sU_o (by decide), sU_s]
        simp [upd]
      · rw [sU_o (by decide), sU_s]
        simp [upd]
      · rw [sU_o (by decide), sU_s]
        simp only [upd]
        rw [if_neg (by omega), sU_o (by decide), sU_s]
        simp only [upd]
        rw [if_neg (by omega), sU_o (by decide), sU_o (by decide), sU_s]
        simp only [upd]
        rw [if_neg (by omega)]
    · rw [h26'] at a2
      refine ⟨vp_in_nI (by omega) (by decide), brt (rr _ _ _) (hbad (q + 2) (by omega) (by omega) (fun p p1 p2 => ?_) (fun z => a2 ⟨z.1, ?_⟩) (by omega) _ ((fr2.tr (FrP.rd _ _ _)).tr (FrP.rm _ _)) rfl)⟩
      · rcases (show p = q ∨ p = q + 1 by omega) with rfl | rfl
        · exact hg
        · exact gq1
      · have := z.2
        rw [gOn, if_neg (by omega), if_neg (by omega), if_neg (by omega), if_neg (by omega), if_neg (by omega), decide_eq_true_eq] at this
        exact this
  · rw [h26] at a
    refine ⟨vp_in_nI (by omega) (by decide), brt' (rr _ _ _) (hbad (q + 1) (by omega) (by omega) (fun p p1 p2 => ?_) (fun z => a ⟨z.1, ?_⟩) (by omega) _ (fr1.tr (FrP.rd _ _ _)) rfl)⟩
    · rw [show p = q by omega]; exact hg
    · have := z.2
      rw [gOn, if_neg (by omega), if_neg (by omega), if_neg (by omega), if_neg (by omega), if_pos (by omega), decide_eq_true_eq] at this
      exact this
end PARSE
end
section
section COURT
variable {g : GG} {d : Nat} {F : Int32 → St → Prop} {S n : Nat}
theorem m_readHead {σ : St} {q m : Nat} (hS : S + n ≤ 240) (hm : m < 5) (hq : q = 4 * m + 2) (hqn : q ≤ n) (hat : σ 23 9 = nI (S + q)) (hrm : σ 23 10 = nI m)
    (hbad : ∀ f, q ≤ f → f ≤ q + 2 → (∀ p, q ≤ p → p < f → good σ S n p) → ¬ good σ S n f → f ≤ n → ∀ σ', FrP σ σ' → σ' 23 9 = nI (S + f) → F 0 σ')
    (hgood : good σ S n q → good σ S n (q + 1) → good σ S n (q + 2) → ∀ σ', FrP σ σ' → σ' 23 9 = nI (S + (q + 3)) → σ' 23 10 = nI (m + 1) → σ' 30 (3 * m) = kdL (σ 26 (S + q)) → σ' 30 (3 * m + 1) = σ 26 (S + (q + 1)) - 48 → σ' 30 (3 * m + 2) = σ 26 (S + (q + 2)) - 48 → (∀ p, p < 3 * m → σ' 30 p = σ 30 p) → F 1 σ') :
    ME g (d + 2) M_X5_readHead [vR 23, vI (nI (S + n))] σ (qI F) := by
  have rr : ∀ (τ : St) (p : Nat) (v : Int32), (sU τ 30 p v) 30 p = v := fun τ p v => by rw [sU_s]; simp [upd]
  have v3 : vp_in (3 * σ 23 10) 15 := by
    rw [hrm, show (3 : Int32) * nI m = nI (3 * m) from pk_mul 3 m]
    exact vp_in_nI (by omega) (by decide)
  have hgg : good σ S n q ↔ q < n ∧ (σ 26 (S + q) = 104 ∨ σ 26 (S + q) = 108 ∨ σ 26 (S + q) = 115) := by
    unfold good
    rw [gOn, if_neg (by omega), if_neg (by omega), if_neg (by omega), if_pos (by omega), decide_eq_true_eq]
  have lt : q < n → ¬ nI (S + n) ≤ nI (S + q) := fun z => nI_ge (by omega) (by omega)
  have ge : ¬ q < n → nI (S + n) ≤ nI (S + q) := fun z => nI_le (by omega) (by omega)
  refine ME_of (S_X5_readHead_0 (nI (S + n)) σ ⟨fun a => ?_, fun a => ?_⟩)
  · have ng : ¬ good σ S n q := fun z => lt z.1 (by rw [← hat]; exact a)
    exact ⟨v3, brt' (rr _ _ _) (hbad q (Nat.le_refl _) (by omega) (fun p p1 p2 => absurd p2 (by omega)) ng hqn _ (FrP.rd _ _ _) (by rw [sU_o (by decide)]; exact hat))⟩
  · have hl : q < n := Decidable.not_not.mp (fun z => a (by rw [hat]; exact ge z))
    have c9 : (σ 23 9).toNatClampNeg = S + q := by rw [hat]; exact cl_n _ (by omega)
    refine ⟨by rw [hat]; exact vp_in_nI (by omega) (by decide), fun b => ⟨fun c => ⟨fun e => ?_, fun e => ?_⟩, fun c => ?_⟩, fun b => ?_⟩
    · rw [c9] at b c e
      have ng : ¬ good σ S n q := fun z => (hgg.mp z).2.elim b (fun w => w.elim c e)
      exact ⟨v3, brt' (rr _ _ _) (hbad q (Nat.le_refl _) (by omega) (fun p p1 p2 => absurd p2 (by omega)) ng hqn _ (FrP.rd _ _ _) (by rw [sU_o (by decide)]; exact hat))⟩
    · rw [c9] at b c e
      have hg : good σ S n q := hgg.mpr ⟨hl, Or.inr (Or.inr e)⟩
      exact rh_tail hS hm hq hl hat hrm (by decide) (by rw [e]; decide) hg hbad (hgood hg)
    · rw [c9] at b c
      have hg : good σ S n q := hgg.mpr ⟨hl, Or.inr (Or.inl c)⟩
      exact rh_tail hS hm hq hl hat hrm (by decide) (by rw [c]; decide) hg hbad (hgood hg)
    · rw [c9] at b
      have hg : good σ S n q := hgg.mpr ⟨hl, Or.inl b⟩
      exact rh_tail hS hm hq hl hat hrm (by decide) (by rw [b]; decide) hg hbad (hgood hg)
/-- what stands in 'read' of the first m heads -/
def rdOk (σ0 σ : St) (S m : Nat) : Prop := ∀ p, p < m → σ 30 (3 * p) = kdL (σ0 26 (S + (4 * p + 2))) ∧ σ 30 (3 * p + 1) = σ0 26 (S + (4 * p + 3)) - 48 ∧ σ 30 (3 * p + 2) = σ0 26 (S + (4 * p + 4)) - 48
theorem l_readCourt (σ0 : St) (hS : S + n ≤ 240)
    (hbad : ∀ f, (∀ p, p < f → good σ0 S n p) → ¬ good σ0 S n f → f ≤ n → ¬ (f = n ∧ 8 < n ∧ (n - 1) % 4 = 0) → ∀ σ', FrP σ0 σ' → σ' 23 9 = nI (S + f) → F 0 σ')
    (hgood : ∀ m, 2 ≤ m → m ≤ 5 → n = 4 * m + 1 → (∀ p, p < n → good σ0 S n p) → ∀ σ', FrP σ0 σ' → σ' 23 10 = nI m → rdOk σ0 σ' S m → F 1 σ') :
    ∀ (r m : Nat) (σ : St), m + r = 5 → 4 * m + 1 ≤ n → FrP σ0 σ → σ 23 9 = nI (S + (4 * m + 1)) → σ 23 10 = nI m → rdOk σ0 σ S m → (∀ p, p < 4 * m + 1 → good σ0 S n p) → VM g (d + 3) M_X5_readCourt (qI F) 17 [(0, vR 23), (1, vI (nI (S + n)))] [] σ := by
  have step : ∀ (m : Nat) (σ : St), m < 5 → 4 * m + 1 ≤ n → FrP σ0 σ → σ 23 9 = nI (S + (4 * m + 1)) → σ 23 10 = nI m → rdOk σ0 σ S m → (∀ p, p < 4 * m + 1 → good σ0 S n p) → ¬ (4 * m + 1 = n ∧ 2 ≤ m) →
      (∀ σ', FrP σ0 σ' → 4 * (m + 1) + 1 ≤ n → σ' 23 9 = nI (S + (4 * (m + 1) + 1)) → σ' 23 10 = nI (m + 1) → rdOk σ0 σ' S (m + 1) → (∀ p, p < 4 * (m + 1) + 1 → good σ0 S n p) → VM g (d + 3) M_X5_readCourt (qI F) 17 [(0, vR 23), (1, vI (nI (S + n)))] [] σ') →
      (ME g (d + 2) M_X5_isSign [vR 23, vI (nI (S + n)), vI 59] σ (qI (fun r2 σ3 => ((r2 = 0 → F 0 σ3) ∧ (¬ r2 = 0 → (ME g (d + 2) M_X5_readHead [vR 23, vI (nI (S + n))] σ3 (qI (fun r6 σ7 => ((¬ r6 = 0 → VM g (d + 2 + 1) M_X5_readCourt (qI F) 17 [(0, vR 23), (1, vI (nI (S + n)))] [] σ7) ∧ (r6 = 0 → F 0 σ7)))))))))) := by
    intro m σ hm hmn hfr hat hrm hrd hgd hne ih
    have e26 : σ 26 = σ0 26 := hfr.1 26 (by decide) (by decide)
    have hgg : good σ0 S n (4 * m + 1) ↔ (4 * m + 1 < n ∧ σ 26 (S + (4 * m + 1)) = 59) := by
      unfold good
      rw [gOn, if_neg (by omega), if_neg (by omega), if_pos (by omega), decide_eq_true_eq, e26]
    refine m_isSign (q := 4 * m + 1) hS hmn hat (fun a b => b1p ?_) (fun a => b0p ?_)
    · have g1 : good σ0 S n (4 * m + 1) := hgg.mpr ⟨a, b⟩
      have fr1 : FrP σ0 (sU σ 23 9 (nI (S + (4 * m + 1 + 1)))) := hfr.tr (FrP.at _ _)
      have hgd1 : ∀ p, p < 4 * m + 2 → good σ0 S n p := fun p hp => by
        rcases (show p < 4 * m + 1 ∨ p = 4 * m + 1 by omega) with z | rfl
        · exact hgd p z
        · exact g1
      refine m_readHead (q := 4 * m + 2) (m := m) hS hm rfl (by omega) rfl hrm (fun f f1 f2 f3 f4 f5 σ' h1 h2 => b0n ?_) (fun h1 h2 h3 σ' h4 h5 h6 h7 h8 h9 h10 => b1n ?_)
      · refine hbad f (fun p hp => ?_) (fun z => f4 ((good_fr fr1).mpr z)) f5 (fun z => ?_) σ' (fr1.tr h1) h2
        · rcases (show p < 4 * m + 2 ∨ 4 * m + 2 ≤ p by omega) with z | z
          · exact hgd1 p z
          · exact (good_fr fr1).mp (f3 p z hp)
        · omega
      · have k1 := (good_fr fr1).mp h1
        have k2 := (good_fr fr1).mp h2
        have k3 := (good_fr fr1).mp h3
        refine ih σ' (fr1.tr h4) (by have := k3.1; omega) h5 h6 (fun p hp => ?_) (fun p hp => ?_)
        · have e26' : (sU σ 23 9 (nI (S + (4 * m + 1 + 1)))) 26 = σ0 26 := fr1.1 26 (by decide) (by decide)
          rw [e26'] at h7 h8 h9
          rcases (show p < m ∨ p = m by omega) with z | rfl
          · rw [h10 _ (by omega), h10 _ (by omega), h10 _ (by omega)]
            exact hrd p z
          · exact ⟨h7, h8, h9⟩
        · rcases (show p < 4 * m + 2 ∨ p = 4 * m + 2 ∨ p = 4 * m + 3 ∨ p = 4 * m + 4 by omega) with z | rfl | rfl | rfl
          · exact hgd1 p z
          · exact k1
          · exact k2
          · exact k3
    · refine hbad (4 * m + 1) hgd (fun z => a (hgg.mp z)) hmn (fun z => hne ⟨z.1, by omega⟩) σ hfr hat
  intro r
  induction r with
  | zero =>
    intro m σ hr hmn hfr hat hrm hrd hgd
    have m5 : m = 5 := by omega
    subst m5
    refine S_X5_readCourt_17 (nI (S + n)) σ ?_
    rw [hrm, hat]
    refine brn (by decide) (brt (by decide) ⟨fun a => ?_, fun a => ?_⟩)
    · refine hbad 21 hgd (fun z => ?_) hmn (fun z => a (congrArg (fun w => nI (S + w)) (show 4 * 5 + 1 = n by omega))) σ hfr hat
      have := z.2
      rw [gOn, if_neg (by decide), if_pos (by decide)] at this
      cases this
    · have : S + 21 = S + n := (nI_eq (by omega) (by omega)).mp a
      exact hgood 5 (by decide) (by decide) (by omega) (fun p hp => hgd p (by omega)) σ hfr hrm hrd
  | succ r ih =>
    intro m σ hr hmn hfr hat hrm hrd hgd
    have go := fun (hne : ¬ (4 * m + 1 = n ∧ 2 ≤ m)) => step m σ (by omega) hmn hfr hat hrm hrd hgd hne (fun σ' k1 k2 k3 k4 k5 k6 => ih (m + 1) σ' (by omega) k2 k1 k3 k4 k5 k6)
    refine S_X5_readCourt_17 (nI (S + n)) σ ⟨fun a => go ?_, fun a => brn ?_ ⟨fun b => ?_, fun b => go ?_⟩⟩
    · intro z
      rw [hrm] at a
      exact nI_nlt (a := m) (b := 2) z.2 (by omega) a
    · rw [hrm]
      exact nI_ge (a := m) (b := 5) (by omega) (by decide)
    · have m2 : 2 ≤ m := by
        rcases Nat.lt_or_ge m 2 with z | z
        · exact absurd (by rw [hrm]; exact nI_lt (a := m) (b := 2) z (by decide)) a
        · exact z
      have en : 4 * m + 1 = n := by
        rw [hat] at b
        have := (nI_leI (by omega) (by omega)).mp b
        omega
      refine brt' (by rw [hat, en]) (hgood m m2 (by omega) en.symm (fun p hp => hgd p (by omega)) σ hfr hrm hrd)
    · intro z
      rw [hat, z.1] at b
      exact b (nI_le (Nat.le_refl _) (by omega))
theorem m_readCourt {σ : St} (hS : S + n ≤ 240) (hat : σ 23 9 = nI S)
    (hbad : ∀ f, (∀ p, p < f → good σ S n p) → ¬ good σ S n f → f ≤ n → ¬ (f = n ∧ 8 < n ∧ (n - 1) % 4 = 0) → ∀ σ', FrP σ σ' → σ' 23 9 = nI (S + f) → F 0 σ')
    (hgood : ∀ m, 2 ≤ m → m ≤ 5 → n = 4 * m + 1 → (∀ p, p < n → good σ S n p) → ∀ σ', FrP σ σ' → σ' 23 10 = nI m → rdOk σ σ' S m → F 1 σ') : ME g (d + 3) M_X5_readCourt [vR 23, vI (nI (S + n))] σ (qI F) := by
  have fr1 : FrP σ (sU σ 23 10 0) := FrP.rm _ _
  have e26 : (sU σ 23 10 0) 26 = σ 26 := rfl
  refine ME_of (S_X5_readCourt_0 (nI (S + n)) σ (m_isSign (q := 0) hS (Nat.zero_le _) hat (fun a b => b1n ?_) (fun a => b0n ?_)))
  · refine l_readCourt σ hS hbad hgood 5 0 _ rfl a (fr1.tr (FrP.at _ _)) rfl rfl (fun p hp => absurd hp (Nat.not_lt_zero p)) (fun p hp => ?_)
    rw [show p = 0 by omega]
    exact ⟨a, by rw [gOn, if_pos rfl, decide_eq_true_eq]; exact b⟩
  · refine hbad 0 (fun p hp => absurd hp (Nat.not_lt_zero p)) (fun z => a ⟨z.1, ?_⟩) (Nat.zero_le _) (fun z => by omega) _ fr1 hat
    have := z.2
    rw [gOn, if_pos rfl, decide_eq_true_eq] at this
    exact this
/-- the class's first fault, by what is good -/
theorem ffN_bad {tx : Nat → Int32} {n f : Nat} (hf : f < n) (h1 : ∀ p, p < f → gOn p (tx p) = true) (h2 : ¬ gOn f (tx f) = true) : ∀ m q, q + m = n → q ≤ f → ffN tx n m q = nI f
  | 0, q, hq, hqf => by omega
  | m + 1, q, hq, hqf => by
    rcases Nat.lt_or_ge q f with z | z
    · rw [ffN, if_pos (h1 q z)]
      exact ffN_bad hf h1 h2 m (q + 1) (by omega) z
    · have : q = f := by omega
      subst this
      rw [ffN, if_neg h2]
theorem ffN_all {tx : Nat → Int32} {n : Nat} (h1 : ∀ p, p < n → gOn p (tx p) = true) : ∀ m q, q + m = n → ffN tx n m q = if 8 < n ∧ (n - 1) % 4 = 0 then -9 else nI n
  | 0, q, hq => rfl
  | m + 1, q, hq => by
    rw [ffN, if_pos (h1 q (by omega))]
    exact ffN_all h1 m (q + 1) (by omega)
end COURT
end
section
section STCOURT
variable {g : GG} {d : Nat} {σ : St}
/-- the relation, when only scratch and notes changed -/
theorem Rel_gen {σ' : St} (hR : Rel σ) (e : ∀ a, (2 ≤ a ∧ a ≤ 13) ∨ (18 ≤ a ∧ a ≤ 21) ∨ (24 ≤ a ∧ a ≤ 29) ∨ (34 ≤ a ∧ a ≤ 36) → σ' a = σ a) (e0 : σ' 0 6 = σ 0 6) (e1 : σ' 23 1 = σ 23 1) (e5 : σ' 23 5 = σ 23 5) (e18 : σ' 23 18 = σ 23 18) (ef : σ' 0 7 = σ' 23 0) : Rel σ' := by
  obtain ⟨hS, ⟨hh, n, hC, hN⟩, hT, hF⟩ := hR
  refine ⟨RS_fr hS (fun a ha => e a (by omega)), ⟨hh, n, RC_fr hC (by rw [e 10 (by omega)]) e5 (fun a ha => e a (by omega)), RR_fr hN (by rw [e 18 (by omega)]) e18 (fun a ha => e a (by omega))⟩, by rw [e0, e1]; exact hT, ef⟩
theorem m_against {F : Int32 → St → Prop} {k : Nat} {lane i n : Int32} (hk : k < 4) (hs : RS1 σ k) (hl : inR lane 0 2) (h : F (nI (fcN (σ (2 + k) 2) (σ (2 + k) 1) lane i n)) σ) : ME g d M_X5_against [vR 23, vI (nI k), vI lane, vI i, vI n] σ (qI F) := by
  have hcl : (nI k).toNatClampNeg = k := cl_n k (by omega)
  refine ME_of (S_X5_against_0 (nI k) lane i n σ ⟨vp_in_nI hk (by decide), ?_⟩)
  rw [hcl]
  unfold RS1 at hs
  unfold fcN at h
  rcases hs with ⟨s1, s2⟩ | ⟨s1, s2, s3, s4⟩
  · rw [if_pos (by rw [s1]; decide)] at h
    exact brt s2 (brt' s2 h)
  · have n9 : ¬ σ 24 k = -9 := by rw [s4, fa_eq, tm9]; omega
    rw [if_neg (by omega)] at h
    refine brn n9 ⟨fun a => brn' n9 ⟨fun b => ?_, fun b => ?_⟩, fun a => ?_⟩
    · rw [s4] at a
      have z0 : (0 : Int32).toInt = 0 := rfl
      have b' : ¬ n.toInt < 0 := by rw [fa_le, z0] at b; omega
      rw [if_neg (not_not_intro a), if_neg b'] at h
      rw [s2]
      have t1 := tS (σ (2 + k) 2) i
      have r1 := fb_rng (σ (2 + k) 2 - i)
      have r3 := fb_rng i
      refine ⟨fun c => ?_, fun c => ⟨fun e => ?_, fun e => ⟨fun f => ?_, fun f => ?_⟩⟩⟩
      · rw [if_pos (fun q => by rw [fa_lt, z0] at c; have := q.1; omega)] at h; exact h
      · rw [if_pos (fun q => by rw [fa_lt] at e; have := q.2.2; omega)] at h; exact h
      · rw [if_neg (not_not_intro (by rw [fa_lt, z0] at c; rw [fa_lt] at e; rw [fa_le] at f; exact ⟨by omega, by omega, by omega⟩))] at h; exact h
      · rw [if_pos (fun q => by rw [fa_le] at f; rw [fa_lt] at e; rw [fa_lt, z0] at c; have := q.2.2; omega)] at h; exact h
    · rw [s4] at a
      have b' : n.toInt < 0 := by rw [fa_le] at b; simp at b; omega
      rw [if_neg (not_not_intro a), if_pos b'] at h
      exact h
    · rw [s4] at a
      rw [if_pos a] at h
      exact h
theorem fc10 {c : Nat} (h : c ≤ 4) (h0 : c ≠ 0) : fcV c = (-10) - nI c ∧ ntV (fcV c) = nI c ∧ ¬ fcV c = 0 := by
  rcases (show c = 1 ∨ c = 2 ∨ c = 3 ∨ c = 4 by omega) with rfl | rfl | rfl | rfl <;> decide
theorem l_court5 {F : Int32 → St → Prop} {x1 x2 x3 x4 x5 x6 : Int32} {m : Nat} (hm : m ≤ 5) (σ0 : St) (h5 : σ0 23 5 = nI m) (hF : ∀ σ' : St, (∀ c, c ≠ 27 → c ≠ 28 → c ≠ 29 → σ' c = σ0 c) → (∀ p, p < m → σ' 27 p = σ0 30 (3 * p) ∧ σ' 28 p = σ0 30 (3 * p + 1) ∧ σ' 29 p = σ0 30 (3 * p + 2)) → F (nI m) (sU σ' 23 18 0)) :
    ∀ (r p : Nat) (σ : St), p + r = m → (∀ c, c ≠ 27 → c ≠ 28 → c ≠ 29 → σ c = σ0 c) → (∀ q, q < p → σ 27 q = σ0 30 (3 * q) ∧ σ 28 q = σ0 30 (3 * q + 1) ∧ σ 29 q = σ0 30 (3 * q + 2)) → VM g (d + 1) M_X5_court (qI F) 95 [(0, vR 23), (1, vI x1), (2, vI x2), (3, vI x3), (4, vI x4), (5, vI x5), (6, vI x6), (7, vI (nI p))] [] σ
  | 0, p, σ, hp, h1, h2 => by
    have e5 : σ 23 5 = nI m := by rw [h1 23 (by decide) (by decide) (by decide), h5]
    refine S_X5_court_95 x1 x2 x3 x4 x5 x6 (nI p) σ (brt (by rw [e5]; exact nI_le (by omega) (by omega)) ?_)
    rw [e5]
    exact hF σ h1 (fun q hq => h2 q (by omega))
  | r + 1, p, σ, hp, h1, h2 => by
    have e5 : σ 23 5 = nI m := by rw [h1 23 (by decide) (by decide) (by decide), h5]
    refine S_X5_court_95 x1 x2 x3 x4 x5 x6 (nI p) σ (brn (by rw [e5]; exact nI_ge (by omega) (by omega)) ?_)
    have e3 : (3 : Int32) * nI p = nI (3 * p) := pk_mul 3 p
    have e31 : nI (3 * p) + 1 = nI (3 * p + 1) := nI_1 _
    have e32 : nI (3 * p) + 2 = nI (3 * p + 2) := nI_add (3 * p) 2
    have e30 : σ 30 = σ0 30 := h1 30 (by decide) (by decide) (by decide)
    rw [e3, e31, e32, cl_n (3 * p) (by omega), cl_n (3 * p + 1) (by omega), cl_n (3 * p + 2) (by omega), cl_n p (by omega), nI_1, e30]
    refine ⟨vp_in_nI (by omega) (by decide), vp_in_nI (by omega) (by decide), vp_in_nI (by omega) (by decide), vp_in_nI (by omega) (by decide), l_court5 hm σ0 h5 hF r (p + 1) _ (by omega) (fun c c1 c2 c3 => by rw [sU_o c3, sU_o c2, sU_o c1, h1 c c1 c2 c3]) (fun q hq => ?_)⟩
    by_cases e : q = p
    · subst e
      exact ⟨by simp [sU, upd], by simp [sU, upd], by simp [sU, upd]⟩
    · have := h2 q (by omega)
      simpa [sU, upd, e] using this
theorem kdL_in (c : Int32) : inR (kdL c) 0 2 := by
  unfold kdL
  split
  · decide
  · split <;> decide
/-- the model's part of the call, from where its TEXT is read -/
theorem st_court (x lane i n : Int32) (hR : Rel σ) : Dbl g (d + 4) M_X4_court M_X5_court [vI x, vI lane, vI i, vI n] σ := by
  refine ME_of (S_X4_court_0 x lane i n σ (m_troubleOfCells (m_noted ?_)))
  by_cases hx : inR x 0 3
  · obtain ⟨k, rfl, hk3, -⟩ := toN hx
    have hk : k < 4 := by omega
    have hin : vp_in (nI k) 4 := inR_in hx (by decide)
    have hcl : (nI k).toNatClampNeg = k := cl_n k (by omega)
    have hs := hR.1.1 k hk
    rw [tcV, if_neg (not_not_intro hx), hcl]
    by_cases hl : inR lane 0 2
    · rw [if_neg (not_not_intro hl)]
      have hag : ∀ (τ : St) {F : Int32 → St → Prop}, (∀ a, a ≠ 0 → a ≠ 23 → τ a = σ a) → F (nI (fcN (σ (2 + k) 2) (σ (2 + k) 1) lane i n)) τ → ME g (d + 3) M_X5_against [vR 23, vI (nI k), vI lane, vI i, vI n] τ (qI F) := by
        intro τ F e h
        refine m_against hk ?_ hl ?_
        · unfold RS1 at *
          rw [e (2 + k) (by omega) (by omega), e 24 (by decide) (by decide), e 25 (by decide) (by decide)]
          exact hs
        · rw [e (2 + k) (by omega) (by omega)]
          exact h
      by_cases hc : fcN (σ (2 + k) 2) (σ (2 + k) 1) lane i n = 0
      · rw [hc]
        have hh : 0 ≤ (σ (2 + k) 2).toInt ∧ hasC (σ (2 + k) 2) i n := by
          unfold fcN at hc
          split at hc
          · omega
          · split at hc
            · omega
            · split at hc
              · omega
              · split at hc
                · omega
                · rename_i a1 a2 a3 a4
                  exact ⟨by omega, Decidable.not_not.mp a4⟩
        have hlen : (σ (2 + k) 2).toInt ≤ 60 := by
          unfold RS1 at hs
          rcases hs with ⟨s1, s2⟩ | ⟨s1, s2, s3, s4⟩
          · rw [s1]; decide
          · exact s1.2
        obtain ⟨hlen0, h1, h2, h3⟩ := hh
        obtain ⟨i', rfl, hi3, ib⟩ := toN (x := i) (hi := 60) ⟨h1, by omega⟩
        obtain ⟨n', rfl, hn3, nb⟩ := toN (x := n) (hi := 60) ⟨h2, by omega⟩
        have vi := nI_v ib
        have vn := nI_v nb
        have hin60 : i' + n' ≤ 60 := by omega
        refine brt rfl ⟨hin, ?_⟩
        generalize hσ1 : sU σ 0 7 (ntV (fcV 0)) = σ1
        have e1 : ∀ a, a ≠ 0 → σ1 a = σ a := fun a ha => by rw [← hσ1, sU_o ha]
        have e10 : σ1 0 6 = σ 0 6 := by rw [← hσ1]; rfl
        have e17 : σ1 0 7 = 0 := by rw [← hσ1]; rfl
        refine m_firstFault hk hin60 ?_
        have tx : ∀ q, q < n' → σ1 (6 + k) (i' + q) = σ 26 (60 * k + i' + q) := fun q hq => by
          rw [e1 _ (by omega), hR.1.2 k _ hk (by omega)]
          congr 1
          omega
        -- the reference's call
        have md : ∀ (τ : St) (G : Int32 → St → Prop), (∀ a, a ≠ 0 → a ≠ 10 → a ≠ 11 → a ≠ 12 → a ≠ 13 → a ≠ 18 → τ a = σ a) →
            (∀ f, (∀ p, p < f → good σ (60 * k + i') n' p) → ¬ good σ (60 * k + i') n' f → f ≤ n' → ¬ (f = n' ∧ 8 < n' ∧ (n' - 1) % 4 = 0) → ∀ σ', FrP (sU (sU τ 23 0 0) 23 9 (nI (60 * k + i'))) σ' → G ((-100) - nI f) σ') →
            (∀ m, 2 ≤ m → m ≤ 5 → n' = 4 * m + 1 → (∀ p, p < n' → good σ (60 * k + i') n' p) → ∀ σ', FrP (sU (sU τ 23 0 0) 23 9 (nI (60 * k + i'))) σ' → rdOk σ σ' (60 * k + i') m → ∀ σ'', (∀ c, c ≠ 27 → c ≠ 28 → c ≠ 29 → σ'' c = (sU σ' 23 5 (nI m)) c) → (∀ p, p < m → σ'' 27 p = σ' 30 (3 * p) ∧ σ'' 28 p = σ' 30 (3 * p + 1) ∧ σ'' 29 p = σ' 30 (3 * p + 2)) → G (nI m) (sU σ'' 23 18 0)) →
            ME g (d + 4) M_X5_court [vR 23, vI (nI k), vI lane, vI (nI i'), vI (nI n')] τ (qI G) := by
          intro τ G et hb hg
          refine ME_of (S_X5_court_0 (nI k) lane (nI i') (nI n') τ (isSheet5_t hx (b1n (isSort_t hl (b1n ?_)))))
          refine m_against (k := k) (σ := sU τ 23 0 0) hk ?_ hl ?_
          · have r2 : (sU τ 23 0 0) (2 + k) = σ (2 + k) := by rw [sU_o (by omega), et _ (by omega) (by omega) (by omega) (by omega) (by omega) (by omega)]
            have r24 : (sU τ 23 0 0) 24 = σ 24 := by rw [sU_o (by omega), et _ (by omega) (by omega) (by omega) (by omega) (by omega) (by omega)]
            have r25 : (sU τ 23 0 0) 25 = σ 25 := by rw [sU_o (by omega), et _ (by omega) (by omega) (by omega) (by omega) (by omega) (by omega)]
            unfold RS1 at *
            rw [r2, r24, r25]
            exact hs
          · have r2 : (sU τ 23 0 0) (2 + k) = σ (2 + k) := by rw [sU_o (by omega), et _ (by omega) (by omega) (by omega) (by omega) (by omega) (by omega)]
            rw [r2, hc]
            refine brt rfl ?_
            rw [m60, nI_add]
            have g26 : (sU (sU τ 23 0 0) 23 9 (nI (60 * k + i'))) 26 = σ 26 := by rw [sU_o (by decide), sU_o (by decide), et _ (by omega) (by omega) (by omega) (by omega) (by omega) (by omega)]
            have gd : ∀ q, good (sU (sU τ 23 0 0) 23 9 (nI (60 * k + i'))) (60 * k + i') n' q ↔ good σ (60 * k + i') n' q := fun q => by
              unfold good
              rw [g26]
            refine m_readCourt (S := 60 * k + i') (n := n') (by omega) rfl (fun f f1 f2 f3 f4 σ' h1 h2 => b0n ?_) (fun m m2 m5 hm f1 σ' h1 h2 h3 => b1n ?_)
            · rw [h2]
              rw [show nI (60 * k + i' + f) - nI (60 * k + i') = nI f by rw [pk_sub (by omega)]; congr 1; omega]
              exact hb f (fun p hp => (gd p).mp (f1 p hp)) (fun z => f2 ((gd f).mpr z)) f3 f4 σ' h1
            · rw [h2]
              refine l_court5 m5 _ rfl (fun σ'' k1 k2 => hg m m2 m5 hm (fun p hp => (gd p).mp (f1 p hp)) σ' h1 ?_ σ'' k1 (fun p hp => ?_)) m 0 _ (by omega) (fun _ _ _ _ => rfl) (fun q hq => absurd hq (Nat.not_lt_zero q))
              · unfold rdOk at *
                rw [g26] at h3
                exact h3
              · have := k2 p hp
                rw [sU_o (by decide)] at this
                exact this
        have nf : ∀ σ2, FrP (sU (sU σ1 23 0 0) 23 9 (nI (60 * k + i'))) σ2 → Rel σ2 := by
          intro σ2 k1
          have b23 : ∀ i, i ≠ 9 → i ≠ 10 → i ≠ 0 → σ2 23 i = σ 23 i := fun i h9 h10 h0 => by
            rw [k1.2 i h9 h10, sU_s]
            simp only [upd]
            rw [if_neg h9, sU_s]
            simp only [upd]
            rw [if_neg h0, e1 23 (by decide)]
          refine Rel_gen hR (fun a ha => ?_) ?_ (b23 1 (by decide) (by decide) (by decide)) (b23 5 (by decide) (by decide) (by decide)) (b23 18 (by decide) (by decide) (by decide)) ?_
          · rw [k1.1 a (by omega) (by omega), sU_o (by omega), sU_o (by omega), e1 a (by omega)]
          · rw [k1.1 0 (by decide) (by decide), sU_o (by decide), sU_o (by decide), e10]
          · rw [k1.1 0 (by decide) (by decide), sU_o (by decide), sU_o (by decide), e17, k1.2 0 (by decide) (by decide)]
            rfl
        by_cases hall : ∀ p, p < n' → good σ (60 * k + i') n' p
        · have tall : ∀ p, p < n' → gOn p ((fun q => σ1 (6 + k) (i' + q)) p) = true := fun p hp => by
            show gOn p (σ1 (6 + k) (i' + p)) = true
            rw [tx p hp]
            exact (hall p hp).2
          rw [ffN_all tall n' 0 (by omega)]
          by_cases hw : 8 < n' ∧ (n' - 1) % 4 = 0
          · rw [if_pos hw]
            have n21 : n' ≤ 21 := by
              rcases Nat.lt_or_ge 21 n' with z | z
              · exfalso
                have := (hall 21 z).2
                rw [gOn, if_neg (by decide), if_pos (by decide)] at this
                cases this
              · exact z
            obtain ⟨m, hm⟩ : ∃ m, n' = 4 * m + 1 := ⟨(n' - 1) / 4, by omega⟩
            have m2 : 2 ≤ m := by omega
            have m5 : m ≤ 5 := by omega
            refine brt rfl ?_
            have em : (nI n' - 1) / 4 = nI m := by
              show (nI n' - nI 1) / nI 4 = _
              rw [pk_sub (by omega), pk_div (by omega) (by decide) (by decide)]
              congr 1
              omega
            rw [em]
            refine ME_of (S_X0_gather_0 hk (nI i') (nI m) σ1 ?_)
            have emin : (if (5 : Int32) < nI m then 5 else nI m) = nI m := if_neg (nI_nlt (a := 5) (b := m) m5 (by decide))
            rw [emin]
            refine l_gather hk m5 (by omega) (sU σ1 10 3 (nI m)) rfl (fun σ2 g1 g2 => ?_) m 0 _ (by omega) (fun _ _ _ _ => rfl) (fun q hq => absurd hq (Nat.not_lt_zero q))
            rw [g1 10 (by decide) (by decide) (by decide), sU_s]
            show ME g (d + 4) M_X5_court [vR 23, vI (nI k), vI lane, vI (nI i'), vI (nI n')] (sU σ2 18 3 0) (qI fun r2 σ3 => nI m = r2 ∧ Rel σ3)
            have eτ : ∀ a, a ≠ 0 → a ≠ 10 → a ≠ 11 → a ≠ 12 → a ≠ 13 → a ≠ 18 → (sU σ2 18 3 0) a = σ a := fun a h0 h10 h11 h12 h13 h18 => by rw [sU_o h18, g1 a h11 h12 h13, sU_o h10, e1 a h0]
            refine md _ _ eτ (fun f f1 f2 f3 f4 => ?_) (fun m' m2' m5' hm' f1 σ3 k1 k2 σ4 k3 k4 => ?_)
            · exfalso
              rcases Nat.lt_or_ge f n' with z | z
              · exact f2 (hall f z)
              · exact f4 ⟨by omega, hw⟩
            · have mm : m' = m := by omega
              subst mm
              refine ⟨rfl, ?_⟩
              have fin : ∀ a, a ≠ 30 → a ≠ 23 → a ≠ 27 → a ≠ 28 → a ≠ 29 → (sU σ4 23 18 0) a = (sU σ2 18 3 0) a := fun a h30 h23 h27 h28 h29 => by
                rw [sU_o h23, k3 a h27 h28 h29, sU_o h23, k1.1 a h30 h23, sU_o h23, sU_o h23]
              have f23 : ∀ i, i ≠ 9 → i ≠ 10 → i ≠ 18 → i ≠ 5 → i ≠ 0 → (sU σ4 23 18 0) 23 i = σ 23 i := fun i h9 h10 h18 h5 h0 => by
                rw [sU_s]
                simp only [upd]
                rw [if_neg h18, k3 23 (by decide) (by decide) (by decide), sU_s]
                simp only [upd]
                rw [if_neg h5, k1.2 i h9 h10, sU_s]
                simp only [upd]
                rw [if_neg h9, sU_s]
                simp only [upd]
                rw [if_neg h0, eτ 23 (by decide) (by decide) (by decide) (by decide) (by decide) (by decide)]
              refine ⟨RS_fr hR.1 (fun a ha => ?_), ⟨m', 0, ⟨m5, ?_, ?_, fun p hp => ?_⟩, ⟨by decide, ?_, rfl, fun r hr => absurd hr (Nat.not_lt_zero r)⟩⟩, ?_, ?_⟩
              · rw [fin a (by omega) (by omega) (by omega) (by omega) (by omega), eτ a (by omega) (by omega) (by omega) (by omega) (by omega) (by omega)]
              · rw [fin 10 (by decide) (by decide) (by decide) (by decide) (by decide), sU_o (by decide), g1 10 (by decide) (by decide) (by decide)]
                rfl
              · rw [sU_s]
                show (upd (σ4 23) 18 0) 5 = _
                simp only [upd]
                rw [if_neg (by decide), k3 23 (by decide) (by decide) (by decide)]
                rfl
              · have q2 : 4 * p + 4 < n' := by omega
                obtain ⟨w1, w2, w3⟩ := g2 p hp
                obtain ⟨v1, v2, v3⟩ := k4 p hp
                obtain ⟨u1, u2, u3⟩ := k2 p hp
                have t : ∀ q, q < n' → (sU σ1 10 3 (nI m')) (6 + k) (i' + q) = σ 26 (60 * k + i' + q) := fun q hq => by rw [sU_o (by omega)]; exact tx q hq
                rw [t _ (by omega)] at w1 w2 w3
                have a11 : (sU σ4 23 18 0) 11 p = kdL (σ 26 (60 * k + i' + (4 * p + 2))) := by rw [fin 11 (by decide) (by decide) (by decide) (by decide) (by decide), sU_o (by decide)]; exact w1
                have a12 : (sU σ4 23 18 0) 12 p = σ 26 (60 * k + i' + (4 * p + 3)) - 48 := by rw [fin 12 (by decide) (by decide) (by decide) (by decide) (by decide), sU_o (by decide)]; exact w2
                have a13 : (sU σ4 23 18 0) 13 p = σ 26 (60 * k + i' + (4 * p + 4)) - 48 := by rw [fin 13 (by decide) (by decide) (by decide) (by decide) (by decide), sU_o (by decide)]; exact w3
                have a27 : (sU σ4 23 18 0) 27 p = kdL (σ 26 (60 * k + i' + (4 * p + 2))) := by rw [sU_o (by decide), v1]; exact u1
                have a28 : (sU σ4 23 18 0) 28 p = σ 26 (60 * k + i' + (4 * p + 3)) - 48 := by rw [sU_o (by decide), v2]; exact u2
                have a29 : (sU σ4 23 18 0) 29 p = σ 26 (60 * k + i' + (4 * p + 4)) - 48 := by rw [sU_o (by decide), v3]; exact u3
                rw [a11, a12, a13, a27, a28, a29]
                have d3 := (hall (4 * p + 3) (by omega)).2
                rw [gOn, if_neg (by omega), if_neg (by omega), if_neg (by omega), if_neg (by omega), if_pos (by omega), decide_eq_true_eq] at d3
                have d4 := (hall (4 * p + 4) (by omega)).2
                rw [gOn, if_neg (by omega), if_neg (by omega), if_neg (by omega), if_neg (by omega), if_neg (by omega), decide_eq_true_eq] at d4
                have t48 : (48 : Int32).toInt = 48 := rfl
                have s3 := tS (σ 26 (60 * k + i' + (4 * p + 3))) 48
                have s4 := tS (σ 26 (60 * k + i' + (4 * p + 4))) 48
                have r3 := fb_rng (σ 26 (60 * k + i' + (4 * p + 3)) - 48)
                have r4 := fb_rng (σ 26 (60 * k + i' + (4 * p + 4)) - 48)
                exact ⟨rfl, rfl, rfl, kdL_in _, ⟨by omega, by omega⟩, ⟨by omega, by omega⟩⟩
              · rw [fin 18 (by decide) (by decide) (by decide) (by decide) (by decide), sU_s]
                rfl
              · rw [fin 0 (by decide) (by decide) (by decide) (by decide) (by decide), sU_o (by decide), g1 0 (by decide) (by decide) (by decide), sU_o (by decide), e10, f23 1 (by decide) (by decide) (by decide) (by decide) (by decide)]
                exact hR.2.2.1
              · rw [fin 0 (by decide) (by decide) (by decide) (by decide) (by decide), sU_o (by decide), g1 0 (by decide) (by decide) (by decide), sU_o (by decide), e17, sU_s]
                show 0 = (upd (σ4 23) 18 0) 0
                simp only [upd]
                rw [if_neg (by decide), k3 23 (by decide) (by decide) (by decide), sU_s]
                simp only [upd]
                rw [if_neg (by decide), k1.2 0 (by decide) (by decide)]
                rfl
          · rw [if_neg hw]
            refine brn (by intro z; have := congrArg Int32.toInt z; rw [vn, tm9] at this; omega) ?_
            refine md _ _ (fun a h0 _ _ _ _ _ => e1 a h0) (fun f f1 f2 f3 f4 σ2 k1 => ?_) (fun m' m2' m5' hm' f1 σ3 k1 k2 σ4 k3 k4 => ?_)
            · have ff : f = n' := by
                rcases Nat.lt_or_ge f n' with z | z
                · exact absurd (hall f z) f2
                · omega
              rw [ff]
              exact ⟨rfl, nf σ2 k1⟩
            · exact absurd ⟨by omega, by omega⟩ hw
        · obtain ⟨f, ⟨hfn, hfb⟩, hfl⟩ := pk_least (fun p => p < n' ∧ ¬ good σ (60 * k + i') n' p) (Classical.byContradiction (fun z => hall (fun p hp => Classical.byContradiction (fun w => z ⟨p, hp, w⟩))))
          have fg : ∀ p, p < f → good σ (60 * k + i') n' p := fun p hp => Classical.byContradiction (fun w => hfl p hp ⟨by omega, w⟩)
          have eb : ffN (fun q => σ1 (6 + k) (i' + q)) n' n' 0 = nI f := by
            refine ffN_bad hfn (fun p hp => ?_) (fun z => hfb ⟨hfn, ?_⟩) n' 0 (by omega) (Nat.zero_le _)
            · show gOn p (σ1 (6 + k) (i' + p)) = true
              rw [tx p (by omega)]
              exact (fg p hp).2
            · rw [← tx f hfn]
              exact z
          rw [eb]
          refine brn (by intro z; have := congrArg Int32.toInt z; rw [nI_v (by omega), tm9] at this; omega) ?_
          refine md _ _ (fun a h0 _ _ _ _ _ => e1 a h0) (fun f' f1 f2 f3 f4 σ2 k1 => ?_) (fun m' m2' m5' hm' f1 σ3 k1 k2 σ4 k3 k4 => ?_)
          · have ff : f' = f := by
              rcases Nat.lt_or_ge f' f with z | z
              · exact absurd (fg f' z) f2
              · rcases Nat.lt_or_ge f f' with w | w
                · exact absurd (f1 f w) hfb
                · omega
            rw [ff]
            exact ⟨rfl, nf σ2 k1⟩
          · exact absurd (f1 f hfn) hfb
      · have hc4 := fcN_le (σ (2 + k) 2) (σ (2 + k) 1) lane i n
        obtain ⟨c1, c2, c3⟩ := fc10 hc4 hc
        refine brn c3 (ME_of (S_X5_court_0 (nI k) lane i n _ (isSheet5_t hx (b1n (isSort_t hl (b1n (hag _ (fun a h0 h23 => by rw [sU_o h23, sU_o h0]) (brn ?_ (m_fails ⟨c1, ?_⟩)))))))))
        · intro z
          have := (nI_eq (a := fcN (σ (2 + k) 2) (σ (2 + k) 1) lane i n) (b := 0) (by omega) (by decide)).mp z
          exact hc this
        · exact Rel_note hR (fun a h0 h23 => by repeat rw [sU_o (by omega)]) rfl rfl rfl rfl (by rw [c2]; rfl)
    · rw [if_pos hl]
      exact brn (by decide) (ME_of (S_X5_court_0 (nI k) lane i n _ (isSheet5_t hx (b1n (isSort_f hl (b0n ⟨rfl, Rel_n0 hR rfl⟩))))))
  · rw [tcV, if_pos hx]
    exact brn (by decide) (ME_of (S_X5_court_0 x lane i n _ (isSheet5_f hx (b0n ⟨rfl, Rel_n0 hR rfl⟩))))
end STCOURT
end
