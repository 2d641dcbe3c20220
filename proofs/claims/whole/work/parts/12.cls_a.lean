theorem dX4_court_0 : decode cX4_court 0 = .ok (.aload_n 0, 1) := by decide +kernel
theorem dX4_court_1 : decode cX4_court 1 = .ok (.aload_n 0, 1) := by decide +kernel
theorem dX4_court_2 : decode cX4_court 2 = .ok (.iload_n 1, 1) := by decide +kernel
theorem dX4_court_3 : decode cX4_court 3 = .ok (.iload_n 2, 1) := by decide +kernel
theorem dX4_court_4 : decode cX4_court 4 = .ok (.iload_n 3, 1) := by decide +kernel
theorem dX4_court_5 : decode cX4_court 5 = .ok (.iload 4, 2) := by decide +kernel
theorem dX4_court_7 : decode cX4_court 7 = .ok (.invokevirtual 43, 3) := by decide +kernel
theorem dX4_court_10 : decode cX4_court 10 = .ok (.invokevirtual 47, 3) := by decide +kernel
theorem dX4_court_13 : decode cX4_court 13 = .ok (.istore 5, 2) := by decide +kernel
theorem dX4_court_15 : decode cX4_court 15 = .ok (.iload 5, 2) := by decide +kernel
theorem dX4_court_17 : decode cX4_court 17 = .ok (.ifCond .eq 6, 3) := by decide +kernel
theorem dX4_court_20 : decode cX4_court 20 = .ok (.iload 5, 2) := by decide +kernel
theorem dX4_court_22 : decode cX4_court 22 = .ok (.ireturn, 1) := by decide +kernel
theorem dX4_court_23 : decode cX4_court 23 = .ok (.aload_n 0, 1) := by decide +kernel
theorem dX4_court_24 : decode cX4_court 24 = .ok (.getfield 13, 3) := by decide +kernel
theorem dX4_court_27 : decode cX4_court 27 = .ok (.iload_n 1, 1) := by decide +kernel
theorem dX4_court_28 : decode cX4_court 28 = .ok (.aaload, 1) := by decide +kernel
theorem dX4_court_29 : decode cX4_court 29 = .ok (.iload_n 3, 1) := by decide +kernel
theorem dX4_court_30 : decode cX4_court 30 = .ok (.iload 4, 2) := by decide +kernel
theorem dX4_court_32 : decode cX4_court 32 = .ok (.invokestatic 51, 3) := by decide +kernel
theorem dX4_court_35 : decode cX4_court 35 = .ok (.istore 6, 2) := by decide +kernel
theorem dX4_court_37 : decode cX4_court 37 = .ok (.iload 6, 2) := by decide +kernel
theorem dX4_court_39 : decode cX4_court 39 = .ok (.bipush (-9), 2) := by decide +kernel
theorem dX4_court_41 : decode cX4_court 41 = .ok (.if_icmp .eq 9, 3) := by decide +kernel
theorem dX4_court_44 : decode cX4_court 44 = .ok (.bipush (-100), 2) := by decide +kernel
theorem dX4_court_46 : decode cX4_court 46 = .ok (.iload 6, 2) := by decide +kernel
theorem dX4_court_48 : decode cX4_court 48 = .ok (.isub, 1) := by decide +kernel
theorem dX4_court_49 : decode cX4_court 49 = .ok (.ireturn, 1) := by decide +kernel
theorem dX4_court_50 : decode cX4_court 50 = .ok (.aload_n 0, 1) := by decide +kernel
theorem dX4_court_51 : decode cX4_court 51 = .ok (.getfield 21, 3) := by decide +kernel
theorem dX4_court_54 : decode cX4_court 54 = .ok (.aload_n 0, 1) := by decide +kernel
theorem dX4_court_55 : decode cX4_court 55 = .ok (.getfield 13, 3) := by decide +kernel
theorem dX4_court_58 : decode cX4_court 58 = .ok (.iload_n 1, 1) := by decide +kernel
theorem dX4_court_59 : decode cX4_court 59 = .ok (.aaload, 1) := by decide +kernel
theorem dX4_court_60 : decode cX4_court 60 = .ok (.iload_n 3, 1) := by decide +kernel
theorem dX4_court_61 : decode cX4_court 61 = .ok (.iload 4, 2) := by decide +kernel
theorem dX4_court_63 : decode cX4_court 63 = .ok (.iconst 1, 1) := by decide +kernel
theorem dX4_court_64 : decode cX4_court 64 = .ok (.isub, 1) := by decide +kernel
theorem dX4_court_65 : decode cX4_court 65 = .ok (.iconst 4, 1) := by decide +kernel
theorem dX4_court_66 : decode cX4_court 66 = .ok (.idiv, 1) := by decide +kernel
theorem dX4_court_67 : decode cX4_court 67 = .ok (.invokevirtual 55, 3) := by decide +kernel
theorem dX4_court_70 : decode cX4_court 70 = .ok (.aload_n 0, 1) := by decide +kernel
theorem dX4_court_71 : decode cX4_court 71 = .ok (.getfield 35, 3) := by decide +kernel
theorem dX4_court_74 : decode cX4_court 74 = .ok (.iconst 0, 1) := by decide +kernel
theorem dX4_court_75 : decode cX4_court 75 = .ok (.putfield 59, 3) := by decide +kernel
theorem dX4_court_78 : decode cX4_court 78 = .ok (.aload_n 0, 1) := by decide +kernel
theorem dX4_court_79 : decode cX4_court 79 = .ok (.getfield 21, 3) := by decide +kernel
theorem dX4_court_82 : decode cX4_court 82 = .ok (.getfield 63, 3) := by decide +kernel
theorem dX4_court_85 : decode cX4_court 85 = .ok (.ireturn, 1) := by decide +kernel
set_option maxRecDepth 20000 in
theorem S_X4_court_0 {g : GG} {d : Nat} {F : Int32 → St → Prop} (a1 : Int32) (a2 : Int32) (a3 : Int32) (a4 : Int32) (σ : St) (h : (ME g d M_X4_troubleOfCells [vR 0, vI a1, vI a2, vI a3, vI a4] σ (qI (fun r1 σ2 => (ME g d M_X4_noted [vR 0, vI r1] σ2 (qI (fun r4 σ5 => ((r4 = 0 → (vp_in a1 4 ∧ (ME g d M_X4_firstFault [vR (2 + a1.toNatClampNeg), vI a3, vI a4] σ5 (qI (fun r8 σ9 => ((r8 = (-9) → (ME g d M_X0_gather [vR 10, vR (2 + a1.toNatClampNeg), vI a3, vI ((a4 - 1) / 4)] σ9 (qV (fun σ13 => F (σ13 10 3) (sU σ13 18 3 0))))) ∧ (¬ r8 = (-9) → F ((-100) - r8) σ9))))))) ∧ (¬ r4 = 0 → F r4 σ5))))))))) : VM g (d + 1) M_X4_court (qI F) 0 [(0, vR 0), (1, vI a1), (2, vI a2), (3, vI a3), (4, vI a4)] [] σ := by
  refine VE_aload_n 0 dX4_court_0 (k := ?_)
  refine VE_aload_n 0 dX4_court_1 (k := ?_)
  refine VE_iload_n 1 dX4_court_2 (k := ?_)
  refine VE_iload_n 2 dX4_court_3 (k := ?_)
  refine VE_iload_n 3 dX4_court_4 (k := ?_)
  refine VE_iload 4 dX4_court_5 (k := ?_)
  refine VE_cVi [vI a1, vI a2, vI a3, vI a4] dX4_court_7 ml_X4_43 h (fun r1 σ2 h3 => ?_) (rok_D d)
  refine VE_cVi [vI r1] dX4_court_10 ml_X4_47 h3 (fun r4 σ5 h6 => ?_) (rok_D d)
  refine VE_istore (ls' := [(5, vI r4), (0, vR 0), (1, vI a1), (2, vI a2), (3, vI a3), (4, vI a4)]) dX4_court_13 ?_
  refine VE_iload 0 dX4_court_15 (k := ?_)
  refine VE_if_eq 23 dX4_court_17 (fun c7 => ?_) (fun c7 => ?_)
  · refine VE_aload_n 1 dX4_court_23 (k := ?_)
    refine VE_getR 1 dX4_court_24 fl_X4_13 ?_
    refine VE_iload_n 2 dX4_court_27 (k := ?_)
    refine VE_aald dX4_court_28 (h6.1 c7).1 ?_
    refine VE_iload_n 4 dX4_court_29 (k := ?_)
    refine VE_iload 5 dX4_court_30 (k := ?_)
    refine VE_cSi [vR (2 + a1.toNatClampNeg), vI a3, vI a4] dX4_court_32 ml_X4_51 (h6.1 c7).2 (fun r8 σ9 h10 => ?_) (rok_D d)
    refine VE_istore (ls' := [(6, vI r8), (5, vI r4), (0, vR 0), (1, vI a1), (2, vI a2), (3, vI a3), (4, vI a4)]) dX4_court_35 ?_
    refine VE_iload 0 dX4_court_37 (k := ?_)
    refine VE_bipush (-9) dX4_court_39 (k := ?_)
    refine VE_icmp_eq 50 dX4_court_41 (fun c11 => ?_) (fun c11 => ?_)
    · refine VE_aload_n 2 dX4_court_50 (k := ?_)
      refine VE_getR 10 dX4_court_51 fl_X4_21 ?_
      refine VE_aload_n 2 dX4_court_54 (k := ?_)
      refine VE_getR 1 dX4_court_55 fl_X4_13 ?_
      refine VE_iload_n 3 dX4_court_58 (k := ?_)
      refine VE_aald dX4_court_59 (h6.1 c7).1 ?_
      refine VE_iload_n 5 dX4_court_60 (k := ?_)
      refine VE_iload 6 dX4_court_61 (k := ?_)
      refine VE_iconst 1 dX4_court_63 (k := ?_)
      refine VE_isub dX4_court_64 ?_
      refine VE_iconst 4 dX4_court_65 (k := ?_)
      refine VE_idiv dX4_court_66 (by decide) ?_
      refine VE_cVv [vR (2 + a1.toNatClampNeg), vI a3, vI ((a4 - 1) / 4)] dX4_court_67 ml_X4_55 (h10.1 c11) (fun σ13 h14 => ?_) (rok_D d)
      refine VE_aload_n 2 dX4_court_70 (k := ?_)
      refine VE_getR 18 dX4_court_71 fl_X4_35 ?_
      refine VE_iconst 0 dX4_court_74 (k := ?_)
      refine VE_put dX4_court_75 fl_X4_59 ?_
      refine VE_aload_n 2 dX4_court_78 (k := ?_)
      refine VE_getR 10 dX4_court_79 fl_X4_21 ?_
      refine VE_getI dX4_court_82 fl_X4_63 ?_
      exact VM_iret dX4_court_85 h14
    · refine VE_bipush (-100) dX4_court_44 (k := ?_)
      refine VE_iload 0 dX4_court_46 (k := ?_)
      refine VE_isub dX4_court_48 ?_
      exact VM_iret dX4_court_49 (h10.2 c11)
  · refine VE_iload 0 dX4_court_20 (k := ?_)
    exact VM_iret dX4_court_22 (h6.2 c7)
theorem dX4_ofHead_0 : decode cX4_ofHead 0 = .ok (.aload_n 0, 1) := by decide +kernel
theorem dX4_ofHead_1 : decode cX4_ofHead 1 = .ok (.getfield 21, 3) := by decide +kernel
theorem dX4_ofHead_4 : decode cX4_ofHead 4 = .ok (.iload_n 1, 1) := by decide +kernel
theorem dX4_ofHead_5 : decode cX4_ofHead 5 = .ok (.invokevirtual 64, 3) := by decide +kernel
theorem dX4_ofHead_8 : decode cX4_ofHead 8 = .ok (.ifCond .ne 5, 3) := by decide +kernel
theorem dX4_ofHead_11 : decode cX4_ofHead 11 = .ok (.iconst (-1), 1) := by decide +kernel
theorem dX4_ofHead_12 : decode cX4_ofHead 12 = .ok (.ireturn, 1) := by decide +kernel
theorem dX4_ofHead_13 : decode cX4_ofHead 13 = .ok (.iload_n 2, 1) := by decide +kernel
theorem dX4_ofHead_14 : decode cX4_ofHead 14 = .ok (.tableswitch 82 0 3 #[30, 40, 50, 60], 30) := by decide +kernel
theorem dX4_ofHead_44 : decode cX4_ofHead 44 = .ok (.aload_n 0, 1) := by decide +kernel
theorem dX4_ofHead_45 : decode cX4_ofHead 45 = .ok (.getfield 21, 3) := by decide +kernel
theorem dX4_ofHead_48 : decode cX4_ofHead 48 = .ok (.getfield 68, 3) := by decide +kernel
theorem dX4_ofHead_51 : decode cX4_ofHead 51 = .ok (.iload_n 1, 1) := by decide +kernel
theorem dX4_ofHead_52 : decode cX4_ofHead 52 = .ok (.iaload, 1) := by decide +kernel
theorem dX4_ofHead_53 : decode cX4_ofHead 53 = .ok (.ireturn, 1) := by decide +kernel
theorem dX4_ofHead_54 : decode cX4_ofHead 54 = .ok (.aload_n 0, 1) := by decide +kernel
theorem dX4_ofHead_55 : decode cX4_ofHead 55 = .ok (.getfield 21, 3) := by decide +kernel
theorem dX4_ofHead_58 : decode cX4_ofHead 58 = .ok (.getfield 71, 3) := by decide +kernel
theorem dX4_ofHead_61 : decode cX4_ofHead 61 = .ok (.iload_n 1, 1) := by decide +kernel
theorem dX4_ofHead_62 : decode cX4_ofHead 62 = .ok (.iaload, 1) := by decide +kernel
theorem dX4_ofHead_63 : decode cX4_ofHead 63 = .ok (.ireturn, 1) := by decide +kernel
theorem dX4_ofHead_64 : decode cX4_ofHead 64 = .ok (.aload_n 0, 1) := by decide +kernel
theorem dX4_ofHead_65 : decode cX4_ofHead 65 = .ok (.getfield 21, 3) := by decide +kernel
theorem dX4_ofHead_68 : decode cX4_ofHead 68 = .ok (.getfield 74, 3) := by decide +kernel
theorem dX4_ofHead_71 : decode cX4_ofHead 71 = .ok (.iload_n 1, 1) := by decide +kernel
theorem dX4_ofHead_72 : decode cX4_ofHead 72 = .ok (.iaload, 1) := by decide +kernel
theorem dX4_ofHead_73 : decode cX4_ofHead 73 = .ok (.ireturn, 1) := by decide +kernel
theorem dX4_ofHead_74 : decode cX4_ofHead 74 = .ok (.aload_n 0, 1) := by decide +kernel
theorem dX4_ofHead_75 : decode cX4_ofHead 75 = .ok (.getfield 21, 3) := by decide +kernel
theorem dX4_ofHead_78 : decode cX4_ofHead 78 = .ok (.getfield 68, 3) := by decide +kernel
theorem dX4_ofHead_81 : decode cX4_ofHead 81 = .ok (.iload_n 1, 1) := by decide +kernel
theorem dX4_ofHead_82 : decode cX4_ofHead 82 = .ok (.iaload, 1) := by decide +kernel
theorem dX4_ofHead_83 : decode cX4_ofHead 83 = .ok (.aload_n 0, 1) := by decide +kernel
theorem dX4_ofHead_84 : decode cX4_ofHead 84 = .ok (.getfield 21, 3) := by decide +kernel
theorem dX4_ofHead_87 : decode cX4_ofHead 87 = .ok (.getfield 71, 3) := by decide +kernel
theorem dX4_ofHead_90 : decode cX4_ofHead 90 = .ok (.iload_n 1, 1) := by decide +kernel
theorem dX4_ofHead_91 : decode cX4_ofHead 91 = .ok (.iaload, 1) := by decide +kernel
theorem dX4_ofHead_92 : decode cX4_ofHead 92 = .ok (.invokestatic 77, 3) := by decide +kernel
theorem dX4_ofHead_95 : decode cX4_ofHead 95 = .ok (.ireturn, 1) := by decide +kernel
theorem dX4_ofHead_96 : decode cX4_ofHead 96 = .ok (.bipush (-2), 2) := by decide +kernel
theorem dX4_ofHead_98 : decode cX4_ofHead 98 = .ok (.ireturn, 1) := by decide +kernel
set_option maxRecDepth 20000 in
theorem S_X4_ofHead_0 {g : GG} {d : Nat} {F : Int32 → St → Prop} (a1 : Int32) (a2 : Int32) (σ : St) (h : (ME g d M_X0_has [vR 10, vI a1] σ (qI (fun r1 σ2 => ((¬ r1 = 0 → ((a2 = 0 → (vp_in a1 5 ∧ F (σ2 11 a1.toNatClampNeg) σ2)) ∧ (¬ a2 = 0 → ((a2 = 1 → (vp_in a1 5 ∧ F (σ2 12 a1.toNatClampNeg) σ2)) ∧ (¬ a2 = 1 → ((a2 = 2 → (vp_in a1 5 ∧ F (σ2 13 a1.toNatClampNeg) σ2)) ∧ (¬ a2 = 2 → ((a2 = 3 → (vp_in a1 5 ∧ (ME g d M_X4_lasting [vI (σ2 11 a1.toNatClampNeg), vI (σ2 12 a1.toNatClampNeg)] σ2 (qI (fun r9 σ10 => F r9 σ10))))) ∧ (¬ a2 = 3 → F (-2) σ2))))))))) ∧ (r1 = 0 → F (-1) σ2)))))) : VM g (d + 1) M_X4_ofHead (qI F) 0 [(0, vR 0), (1, vI a1), (2, vI a2)] [] σ := by
  refine VE_aload_n 0 dX4_ofHead_0 (k := ?_)
  refine VE_getR 10 dX4_ofHead_1 fl_X4_21 ?_
  refine VE_iload_n 1 dX4_ofHead_4 (k := ?_)
  refine VE_cVi [vI a1] dX4_ofHead_5 ml_X4_64 h (fun r1 σ2 h3 => ?_) (rok_D d)
  refine VE_if_ne 13 dX4_ofHead_8 (fun c4 => ?_) (fun c4 => ?_)
  · refine VE_iload_n 2 dX4_ofHead_13 (k := ?_)
    by_cases c5 : a2 = 0
    · refine VE_tableIn 44 dX4_ofHead_14 (by rw [c5]; decide) (by rw [c5]; decide) (by rw [c5]; rfl) ?_
      refine VE_aload_n 0 dX4_ofHead_44 (k := ?_)
      refine VE_getR 10 dX4_ofHead_45 fl_X4_21 ?_
      refine VE_getR 11 dX4_ofHead_48 fl_X4_68 ?_
      refine VE_iload_n 1 dX4_ofHead_51 (k := ?_)
      refine VE_iald dX4_ofHead_52 ((h3.1 c4).1 c5).1 ?_
      exact VM_iret dX4_ofHead_53 ((h3.1 c4).1 c5).2
    · by_cases c6 : a2 = 1
      · refine VE_tableIn 54 dX4_ofHead_14 (by rw [c6]; decide) (by rw [c6]; decide) (by rw [c6]; rfl) ?_
        refine VE_aload_n 0 dX4_ofHead_54 (k := ?_)
        refine VE_getR 10 dX4_ofHead_55 fl_X4_21 ?_
        refine VE_getR 12 dX4_ofHead_58 fl_X4_71 ?_
        refine VE_iload_n 1 dX4_ofHead_61 (k := ?_)
        refine VE_iald dX4_ofHead_62 (((h3.1 c4).2 c5).1 c6).1 ?_
        exact VM_iret dX4_ofHead_63 (((h3.1 c4).2 c5).1 c6).2
      · by_cases c7 : a2 = 2
        · refine VE_tableIn 64 dX4_ofHead_14 (by rw [c7]; decide) (by rw [c7]; decide) (by rw [c7]; rfl) ?_
          refine VE_aload_n 0 dX4_ofHead_64 (k := ?_)
          refine VE_getR 10 dX4_ofHead_65 fl_X4_21 ?_
          refine VE_getR 13 dX4_ofHead_68 fl_X4_74 ?_
          refine VE_iload_n 1 dX4_ofHead_71 (k := ?_)
          refine VE_iald dX4_ofHead_72 ((((h3.1 c4).2 c5).2 c6).1 c7).1 ?_
          exact VM_iret dX4_ofHead_73 ((((h3.1 c4).2 c5).2 c6).1 c7).2
        · by_cases c8 : a2 = 3
          · refine VE_tableIn 74 dX4_ofHead_14 (by rw [c8]; decide) (by rw [c8]; decide) (by rw [c8]; rfl) ?_
            refine VE_aload_n 0 dX4_ofHead_74 (k := ?_)
            refine VE_getR 10 dX4_ofHead_75 fl_X4_21 ?_
            refine VE_getR 11 dX4_ofHead_78 fl_X4_68 ?_
            refine VE_iload_n 1 dX4_ofHead_81 (k := ?_)
            refine VE_iald dX4_ofHead_82 (((((h3.1 c4).2 c5).2 c6).2 c7).1 c8).1 ?_
            refine VE_aload_n 0 dX4_ofHead_83 (k := ?_)
            refine VE_getR 10 dX4_ofHead_84 fl_X4_21 ?_
            refine VE_getR 12 dX4_ofHead_87 fl_X4_71 ?_
            refine VE_iload_n 1 dX4_ofHead_90 (k := ?_)
            refine VE_iald dX4_ofHead_91 (((((h3.1 c4).2 c5).2 c6).2 c7).1 c8).1 ?_
            refine VE_cSi [vI (σ2 11 a1.toNatClampNeg), vI (σ2 12 a1.toNatClampNeg)] dX4_ofHead_92 ml_X4_77 (((((h3.1 c4).2 c5).2 c6).2 c7).1 c8).2 (fun r9 σ10 h11 => ?_) (rok_D d)
            exact VM_iret dX4_ofHead_95 h11
          · refine VE_tableOut 96 dX4_ofHead_14 (by have e0 : ¬ a2.toInt = 0 := i32_ne c5; have e1 : ¬ a2.toInt = 1 := i32_ne c6; have e2 : ¬ a2.toInt = 2 := i32_ne c7; have e3 : ¬ a2.toInt = 3 := i32_ne c8; omega) ?_
            refine VE_bipush (-2) dX4_ofHead_96 (k := ?_)
            exact VM_iret dX4_ofHead_98 (((((h3.1 c4).2 c5).2 c6).2 c7).2 c8)
  · refine VE_iconst (-1) dX4_ofHead_11 (k := ?_)
    exact VM_iret dX4_ofHead_12 (h3.2 c4)
theorem dX4_wear_0 : decode cX4_wear 0 = .ok (.aload_n 0, 1) := by decide +kernel
theorem dX4_wear_1 : decode cX4_wear 1 = .ok (.getfield 21, 3) := by decide +kernel
theorem dX4_wear_4 : decode cX4_wear 4 = .ok (.iload_n 1, 1) := by decide +kernel
theorem dX4_wear_5 : decode cX4_wear 5 = .ok (.invokevirtual 64, 3) := by decide +kernel
theorem dX4_wear_8 : decode cX4_wear 8 = .ok (.ifCond .ne 5, 3) := by decide +kernel
theorem dX4_wear_11 : decode cX4_wear 11 = .ok (.iconst (-1), 1) := by decide +kernel
theorem dX4_wear_12 : decode cX4_wear 12 = .ok (.ireturn, 1) := by decide +kernel
theorem dX4_wear_13 : decode cX4_wear 13 = .ok (.iload_n 2, 1) := by decide +kernel
theorem dX4_wear_14 : decode cX4_wear 14 = .ok (.iconst 1, 1) := by decide +kernel
theorem dX4_wear_15 : decode cX4_wear 15 = .ok (.if_icmp .lt 9, 3) := by decide +kernel
theorem dX4_wear_18 : decode cX4_wear 18 = .ok (.iload_n 2, 1) := by decide +kernel
theorem dX4_wear_19 : decode cX4_wear 19 = .ok (.bipush 9, 2) := by decide +kernel
theorem dX4_wear_21 : decode cX4_wear 21 = .ok (.if_icmp .le 6, 3) := by decide +kernel
theorem dX4_wear_24 : decode cX4_wear 24 = .ok (.bipush (-2), 2) := by decide +kernel
theorem dX4_wear_26 : decode cX4_wear 26 = .ok (.ireturn, 1) := by decide +kernel
theorem dX4_wear_27 : decode cX4_wear 27 = .ok (.aload_n 0, 1) := by decide +kernel
theorem dX4_wear_28 : decode cX4_wear 28 = .ok (.getfield 21, 3) := by decide +kernel
theorem dX4_wear_31 : decode cX4_wear 31 = .ok (.getfield 71, 3) := by decide +kernel
theorem dX4_wear_34 : decode cX4_wear 34 = .ok (.iload_n 1, 1) := by decide +kernel
theorem dX4_wear_35 : decode cX4_wear 35 = .ok (.iaload, 1) := by decide +kernel
theorem dX4_wear_36 : decode cX4_wear 36 = .ok (.istore_n 3, 1) := by decide +kernel
theorem dX4_wear_37 : decode cX4_wear 37 = .ok (.aload_n 0, 1) := by decide +kernel
theorem dX4_wear_38 : decode cX4_wear 38 = .ok (.getfield 21, 3) := by decide +kernel
theorem dX4_wear_41 : decode cX4_wear 41 = .ok (.getfield 71, 3) := by decide +kernel
theorem dX4_wear_44 : decode cX4_wear 44 = .ok (.iload_n 1, 1) := by decide +kernel
theorem dX4_wear_45 : decode cX4_wear 45 = .ok (.iload_n 2, 1) := by decide +kernel
theorem dX4_wear_46 : decode cX4_wear 46 = .ok (.iastore, 1) := by decide +kernel
theorem dX4_wear_47 : decode cX4_wear 47 = .ok (.iload_n 3, 1) := by decide +kernel
theorem dX4_wear_48 : decode cX4_wear 48 = .ok (.ireturn, 1) := by decide +kernel
set_option maxRecDepth 20000 in
theorem S_X4_wear_0 {g : GG} {d : Nat} {F : Int32 → St → Prop} (a1 : Int32) (a2 : Int32) (σ : St) (h : (ME g d M_X0_has [vR 10, vI a1] σ (qI (fun r1 σ2 => ((¬ r1 = 0 → ((a2 < 1 → F (-2) σ2) ∧ (¬ a2 < 1 → ((a2 ≤ 9 → (vp_in a1 5 ∧ F (σ2 12 a1.toNatClampNeg) (sU σ2 12 a1.toNatClampNeg a2))) ∧ (¬ a2 ≤ 9 → F (-2) σ2))))) ∧ (r1 = 0 → F (-1) σ2)))))) : VM g (d + 1) M_X4_wear (qI F) 0 [(0, vR 0), (1, vI a1), (2, vI a2)] [] σ := by
  refine VE_aload_n 0 dX4_wear_0 (k := ?_)
  refine VE_getR 10 dX4_wear_1 fl_X4_21 ?_
  refine VE_iload_n 1 dX4_wear_4 (k := ?_)
  refine VE_cVi [vI a1] dX4_wear_5 ml_X4_64 h (fun r1 σ2 h3 => ?_) (rok_D d)
  refine VE_if_ne 13 dX4_wear_8 (fun c4 => ?_) (fun c4 => ?_)
  · refine VE_iload_n 2 dX4_wear_13 (k := ?_)
    refine VE_iconst 1 dX4_wear_14 (k := ?_)
    refine VE_icmp_lt 24 dX4_wear_15 (fun c5 => ?_) (fun c5 => ?_)
    · refine VE_bipush (-2) dX4_wear_24 (k := ?_)
      exact VM_iret dX4_wear_26 ((h3.1 c4).1 c5)
    · refine VE_iload_n 2 dX4_wear_18 (k := ?_)
      refine VE_bipush 9 dX4_wear_19 (k := ?_)
      refine VE_icmp_le 27 dX4_wear_21 (fun c6 => ?_) (fun c6 => ?_)
      · refine VE_aload_n 0 dX4_wear_27 (k := ?_)
        refine VE_getR 10 dX4_wear_28 fl_X4_21 ?_
        refine VE_getR 12 dX4_wear_31 fl_X4_71 ?_
        refine VE_iload_n 1 dX4_wear_34 (k := ?_)
        refine VE_iald dX4_wear_35 (((h3.1 c4).2 c5).1 c6).1 ?_
        refine VE_istore_n (ls' := [(3, vI (σ2 12 a1.toNatClampNeg)), (0, vR 0), (1, vI a1), (2, vI a2)]) dX4_wear_36 ?_
        refine VE_aload_n 1 dX4_wear_37 (k := ?_)
        refine VE_getR 10 dX4_wear_38 fl_X4_21 ?_
        refine VE_getR 12 dX4_wear_41 fl_X4_71 ?_
        refine VE_iload_n 2 dX4_wear_44 (k := ?_)
        refine VE_iload_n 3 dX4_wear_45 (k := ?_)
        refine VE_iast dX4_wear_46 (((h3.1 c4).2 c5).1 c6).1 ?_
        refine VE_iload_n 0 dX4_wear_47 (k := ?_)
        exact VM_iret dX4_wear_48 (((h3.1 c4).2 c5).1 c6).2
      · refine VE_bipush (-2) dX4_wear_24 (k := ?_)
        exact VM_iret dX4_wear_26 (((h3.1 c4).2 c5).2 c6)
  · refine VE_iconst (-1) dX4_wear_11 (k := ?_)
    exact VM_iret dX4_wear_12 (h3.2 c4)
theorem dX4_knows_0 : decode cX4_knows 0 = .ok (.aload_n 0, 1) := by decide +kernel
theorem dX4_knows_1 : decode cX4_knows 1 = .ok (.getfield 21, 3) := by decide +kernel
theorem dX4_knows_4 : decode cX4_knows 4 = .ok (.iload_n 1, 1) := by decide +kernel
theorem dX4_knows_5 : decode cX4_knows 5 = .ok (.invokevirtual 64, 3) := by decide +kernel
theorem dX4_knows_8 : decode cX4_knows 8 = .ok (.ifCond .ne 5, 3) := by decide +kernel
theorem dX4_knows_11 : decode cX4_knows 11 = .ok (.iconst (-1), 1) := by decide +kernel
theorem dX4_knows_12 : decode cX4_knows 12 = .ok (.ireturn, 1) := by decide +kernel
theorem dX4_knows_13 : decode cX4_knows 13 = .ok (.iload_n 2, 1) := by decide +kernel
theorem dX4_knows_14 : decode cX4_knows 14 = .ok (.ifCond .lt 8, 3) := by decide +kernel
theorem dX4_knows_17 : decode cX4_knows 17 = .ok (.iload_n 2, 1) := by decide +kernel
theorem dX4_knows_18 : decode cX4_knows 18 = .ok (.iconst 5, 1) := by decide +kernel
theorem dX4_knows_19 : decode cX4_knows 19 = .ok (.if_icmp .le 6, 3) := by decide +kernel
theorem dX4_knows_22 : decode cX4_knows 22 = .ok (.bipush (-2), 2) := by decide +kernel
theorem dX4_knows_24 : decode cX4_knows 24 = .ok (.ireturn, 1) := by decide +kernel
theorem dX4_knows_25 : decode cX4_knows 25 = .ok (.aload_n 0, 1) := by decide +kernel
theorem dX4_knows_26 : decode cX4_knows 26 = .ok (.getfield 21, 3) := by decide +kernel
theorem dX4_knows_29 : decode cX4_knows 29 = .ok (.getfield 74, 3) := by decide +kernel
theorem dX4_knows_32 : decode cX4_knows 32 = .ok (.iload_n 1, 1) := by decide +kernel
theorem dX4_knows_33 : decode cX4_knows 33 = .ok (.iaload, 1) := by decide +kernel
theorem dX4_knows_34 : decode cX4_knows 34 = .ok (.istore_n 3, 1) := by decide +kernel
theorem dX4_knows_35 : decode cX4_knows 35 = .ok (.aload_n 0, 1) := by decide +kernel
theorem dX4_knows_36 : decode cX4_knows 36 = .ok (.getfield 21, 3) := by decide +kernel
theorem dX4_knows_39 : decode cX4_knows 39 = .ok (.getfield 74, 3) := by decide +kernel
theorem dX4_knows_42 : decode cX4_knows 42 = .ok (.iload_n 1, 1) := by decide +kernel
theorem dX4_knows_43 : decode cX4_knows 43 = .ok (.iload_n 2, 1) := by decide +kernel
theorem dX4_knows_44 : decode cX4_knows 44 = .ok (.iastore, 1) := by decide +kernel
theorem dX4_knows_45 : decode cX4_knows 45 = .ok (.iload_n 3, 1) := by decide +kernel
theorem dX4_knows_46 : decode cX4_knows 46 = .ok (.ireturn, 1) := by decide +kernel
set_option maxRecDepth 20000 in
theorem S_X4_knows_0 {g : GG} {d : Nat} {F : Int32 → St → Prop} (a1 : Int32) (a2 : Int32) (σ : St) (h : (ME g d M_X0_has [vR 10, vI a1] σ (qI (fun r1 σ2 => ((¬ r1 = 0 → ((a2 < 0 → F (-2) σ2) ∧ (¬ a2 < 0 → ((a2 ≤ 5 → (vp_in a1 5 ∧ F (σ2 13 a1.toNatClampNeg) (sU σ2 13 a1.toNatClampNeg a2))) ∧ (¬ a2 ≤ 5 → F (-2) σ2))))) ∧ (r1 = 0 → F (-1) σ2)))))) : VM g (d + 1) M_X4_knows (qI F) 0 [(0, vR 0), (1, vI a1), (2, vI a2)] [] σ := by
  refine VE_aload_n 0 dX4_knows_0 (k := ?_)
  refine VE_getR 10 dX4_knows_1 fl_X4_21 ?_
  refine VE_iload_n 1 dX4_knows_4 (k := ?_)
  refine VE_cVi [vI a1] dX4_knows_5 ml_X4_64 h (fun r1 σ2 h3 => ?_) (rok_D d)
  refine VE_if_ne 13 dX4_knows_8 (fun c4 => ?_) (fun c4 => ?_)
  · refine VE_iload_n 2 dX4_knows_13 (k := ?_)
    refine VE_if_lt 22 dX4_knows_14 (fun c5 => ?_) (fun c5 => ?_)
    · refine VE_bipush (-2) dX4_knows_22 (k := ?_)
      exact VM_iret dX4_knows_24 ((h3.1 c4).1 c5)
    · refine VE_iload_n 2 dX4_knows_17 (k := ?_)
      refine VE_iconst 5 dX4_knows_18 (k := ?_)
      refine VE_icmp_le 25 dX4_knows_19 (fun c6 => ?_) (fun c6 => ?_)
      · refine VE_aload_n 0 dX4_knows_25 (k := ?_)
        refine VE_getR 10 dX4_knows_26 fl_X4_21 ?_
        refine VE_getR 13 dX4_knows_29 fl_X4_74 ?_
        refine VE_iload_n 1 dX4_knows_32 (k := ?_)
        refine VE_iald dX4_knows_33 (((h3.1 c4).2 c5).1 c6).1 ?_
        refine VE_istore_n (ls' := [(3, vI (σ2 13 a1.toNatClampNeg)), (0, vR 0), (1, vI a1), (2, vI a2)]) dX4_knows_34 ?_
        refine VE_aload_n 1 dX4_knows_35 (k := ?_)
        refine VE_getR 10 dX4_knows_36 fl_X4_21 ?_
        refine VE_getR 13 dX4_knows_39 fl_X4_74 ?_
        refine VE_iload_n 2 dX4_knows_42 (k := ?_)
        refine VE_iload_n 3 dX4_knows_43 (k := ?_)
        refine VE_iast dX4_knows_44 (((h3.1 c4).2 c5).1 c6).1 ?_
        refine VE_iload_n 0 dX4_knows_45 (k := ?_)
        exact VM_iret dX4_knows_46 (((h3.1 c4).2 c5).1 c6).2
      · refine VE_bipush (-2) dX4_knows_22 (k := ?_)
        exact VM_iret dX4_knows_24 (((h3.1 c4).2 c5).2 c6)
  · refine VE_iconst (-1) dX4_knows_11 (k := ?_)
    exact VM_iret dX4_knows_12 (h3.2 c4)
theorem dX4_visits_0 : decode cX4_visits 0 = .ok (.aload_n 0, 1) := by decide +kernel
theorem dX4_visits_1 : decode cX4_visits 1 = .ok (.aload_n 0, 1) := by decide +kernel
theorem dX4_visits_2 : decode cX4_visits 2 = .ok (.iload_n 1, 1) := by decide +kernel
theorem dX4_visits_3 : decode cX4_visits 3 = .ok (.iload_n 2, 1) := by decide +kernel
theorem dX4_visits_4 : decode cX4_visits 4 = .ok (.iload_n 3, 1) := by decide +kernel
theorem dX4_visits_5 : decode cX4_visits 5 = .ok (.iload 4, 2) := by decide +kernel
theorem dX4_visits_7 : decode cX4_visits 7 = .ok (.iload 5, 2) := by decide +kernel
theorem dX4_visits_9 : decode cX4_visits 9 = .ok (.invokestatic 81, 3) := by decide +kernel
theorem dX4_visits_12 : decode cX4_visits 12 = .ok (.invokevirtual 84, 3) := by decide +kernel
theorem dX4_visits_15 : decode cX4_visits 15 = .ok (.invokevirtual 47, 3) := by decide +kernel
theorem dX4_visits_18 : decode cX4_visits 18 = .ok (.istore 6, 2) := by decide +kernel
theorem dX4_visits_20 : decode cX4_visits 20 = .ok (.iload 6, 2) := by decide +kernel
theorem dX4_visits_22 : decode cX4_visits 22 = .ok (.ifCond .eq 6, 3) := by decide +kernel
theorem dX4_visits_25 : decode cX4_visits 25 = .ok (.iload 6, 2) := by decide +kernel
theorem dX4_visits_27 : decode cX4_visits 27 = .ok (.ireturn, 1) := by decide +kernel
theorem dX4_visits_28 : decode cX4_visits 28 = .ok (.aload_n 0, 1) := by decide +kernel
theorem dX4_visits_29 : decode cX4_visits 29 = .ok (.invokevirtual 88, 3) := by decide +kernel
theorem dX4_visits_32 : decode cX4_visits 32 = .ok (.istore 7, 2) := by decide +kernel
theorem dX4_visits_34 : decode cX4_visits 34 = .ok (.iload 5, 2) := by decide +kernel
theorem dX4_visits_36 : decode cX4_visits 36 = .ok (.iconst 1, 1) := by decide +kernel
theorem dX4_visits_37 : decode cX4_visits 37 = .ok (.if_icmp .ne 6, 3) := by decide +kernel
theorem dX4_visits_40 : decode cX4_visits 40 = .ok (.iload 7, 2) := by decide +kernel
theorem dX4_visits_42 : decode cX4_visits 42 = .ok (.ireturn, 1) := by decide +kernel
theorem dX4_visits_43 : decode cX4_visits 43 = .ok (.iload 7, 2) := by decide +kernel
theorem dX4_visits_45 : decode cX4_visits 45 = .ok (.bipush (-9), 2) := by decide +kernel
theorem dX4_visits_47 : decode cX4_visits 47 = .ok (.if_icmp .eq 9, 3) := by decide +kernel
theorem dX4_visits_50 : decode cX4_visits 50 = .ok (.bipush (-100), 2) := by decide +kernel
theorem dX4_visits_52 : decode cX4_visits 52 = .ok (.iload 7, 2) := by decide +kernel
theorem dX4_visits_54 : decode cX4_visits 54 = .ok (.isub, 1) := by decide +kernel
theorem dX4_visits_55 : decode cX4_visits 55 = .ok (.ireturn, 1) := by decide +kernel
theorem dX4_visits_56 : decode cX4_visits 56 = .ok (.iload 5, 2) := by decide +kernel
theorem dX4_visits_58 : decode cX4_visits 58 = .ok (.bipush 10, 2) := by decide +kernel
theorem dX4_visits_60 : decode cX4_visits 60 = .ok (.if_icmp .ge 12, 3) := by decide +kernel
theorem dX4_visits_63 : decode cX4_visits 63 = .ok (.aload_n 0, 1) := by decide +kernel
theorem dX4_visits_64 : decode cX4_visits 64 = .ok (.iload 5, 2) := by decide +kernel
theorem dX4_visits_66 : decode cX4_visits 66 = .ok (.invokevirtual 92, 3) := by decide +kernel
theorem dX4_visits_69 : decode cX4_visits 69 = .ok (.goto 17, 3) := by decide +kernel
theorem dX4_visits_72 : decode cX4_visits 72 = .ok (.aload_n 0, 1) := by decide +kernel
theorem dX4_visits_73 : decode cX4_visits 73 = .ok (.iload 5, 2) := by decide +kernel
theorem dX4_visits_75 : decode cX4_visits 75 = .ok (.bipush 10, 2) := by decide +kernel
theorem dX4_visits_77 : decode cX4_visits 77 = .ok (.idiv, 1) := by decide +kernel
theorem dX4_visits_78 : decode cX4_visits 78 = .ok (.iload 5, 2) := by decide +kernel
theorem dX4_visits_80 : decode cX4_visits 80 = .ok (.bipush 10, 2) := by decide +kernel
theorem dX4_visits_82 : decode cX4_visits 82 = .ok (.irem, 1) := by decide +kernel
theorem dX4_visits_83 : decode cX4_visits 83 = .ok (.invokevirtual 95, 3) := by decide +kernel
theorem dX4_visits_86 : decode cX4_visits 86 = .ok (.ireturn, 1) := by decide +kernel
set_option maxRecDepth 20000 in
theorem S_X4_visits_0 {g : GG} {d : Nat} {F : Int32 → St → Prop} (a1 : Int32) (a2 : Int32) (a3 : Int32) (a4 : Int32) (a5 : Int32) (σ : St) (h : (ME g d M_X4_isQuestion [vI a5] σ (qI (fun r1 σ2 => (ME g d M_X4_troubleOfVisits [vR 0, vI a1, vI a2, vI a3, vI a4, vI r1] σ2 (qI (fun r4 σ5 => (ME g d M_X4_noted [vR 0, vI r4] σ5 (qI (fun r7 σ8 => ((r7 = 0 → (ME g d M_X4_firstWrong [vR 0] σ8 (qI (fun r11 σ12 => ((¬ a5 = 1 → ((r11 = (-9) → ((10 ≤ a5 → (ME g d M_X4_answerOfHead [vR 0, vI (a5 / 10), vI (a5 - a5 / 10 * 10)] σ12 (qI (fun r17 σ18 => F r17 σ18)))) ∧ (¬ 10 ≤ a5 → (ME g d M_X4_answerOfHall [vR 0, vI a5] σ12 (qI (fun r20 σ21 => F r20 σ21)))))) ∧ (¬ r11 = (-9) → F ((-100) - r11) σ12))) ∧ (a5 = 1 → F r11 σ12)))))) ∧ (¬ r7 = 0 → F r7 σ8)))))))))))) : VM g (d + 1) M_X4_visits (qI F) 0 [(0, vR 0), (1, vI a1), (2, vI a2), (3, vI a3), (4, vI a4), (5, vI a5)] [] σ := by
  refine VE_aload_n 0 dX4_visits_0 (k := ?_)
  refine VE_aload_n 0 dX4_visits_1 (k := ?_)
  refine VE_iload_n 1 dX4_visits_2 (k := ?_)
  refine VE_iload_n 2 dX4_visits_3 (k := ?_)
  refine VE_iload_n 3 dX4_visits_4 (k := ?_)
  refine VE_iload 4 dX4_visits_5 (k := ?_)
  refine VE_iload 5 dX4_visits_7 (k := ?_)
  refine VE_cSi [vI a5] dX4_visits_9 ml_X4_81 h (fun r1 σ2 h3 => ?_) (rok_D d)
  refine VE_cVi [vI a1, vI a2, vI a3, vI a4, vI r1] dX4_visits_12 ml_X4_84 h3 (fun r4 σ5 h6 => ?_) (rok_D d)
  refine VE_cVi [vI r4] dX4_visits_15 ml_X4_47 h6 (fun r7 σ8 h9 => ?_) (rok_D d)
  refine VE_istore (ls' := [(6, vI r7), (0, vR 0), (1, vI a1), (2, vI a2), (3, vI a3), (4, vI a4), (5, vI a5)]) dX4_visits_18 ?_
  refine VE_iload 0 dX4_visits_20 (k := ?_)
  refine VE_if_eq 28 dX4_visits_22 (fun c10 => ?_) (fun c10 => ?_)
  · refine VE_aload_n 1 dX4_visits_28 (k := ?_)
    refine VE_cVi [] dX4_visits_29 ml_X4_88 (h9.1 c10) (fun r11 σ12 h13 => ?_) (rok_D d)
    refine VE_istore (ls' := [(7, vI r11), (6, vI r7), (0, vR 0), (1, vI a1), (2, vI a2), (3, vI a3), (4, vI a4), (5, vI a5)]) dX4_visits_32 ?_
    refine VE_iload 7 dX4_visits_34 (k := ?_)
    refine VE_iconst 1 dX4_visits_36 (k := ?_)
    refine VE_icmp_ne 43 dX4_visits_37 (fun c14 => ?_) (fun c14 => ?_)
    · refine VE_iload 0 dX4_visits_43 (k := ?_)
      refine VE_bipush (-9) dX4_visits_45 (k := ?_)
      refine VE_icmp_eq 56 dX4_visits_47 (fun c15 => ?_) (fun c15 => ?_)
      · refine VE_iload 7 dX4_visits_56 (k := ?_)
        refine VE_bipush 10 dX4_visits_58 (k := ?_)
        refine VE_icmp_ge 72 dX4_visits_60 (fun c16 => ?_) (fun c16 => ?_)
        · refine VE_aload_n 2 dX4_visits_72 (k := ?_)
          refine VE_iload 7 dX4_visits_73 (k := ?_)
          refine VE_bipush 10 dX4_visits_75 (k := ?_)
          refine VE_idiv dX4_visits_77 (by decide) ?_
          refine VE_iload 7 dX4_visits_78 (k := ?_)
          refine VE_bipush 10 dX4_visits_80 (k := ?_)
          refine VE_irem dX4_visits_82 (by decide) ?_
          refine VE_cVi [vI (a5 / 10), vI (a5 - a5 / 10 * 10)] dX4_visits_83 ml_X4_95 (((h13.1 c14).1 c15).1 c16) (fun r17 σ18 h19 => ?_) (rok_D d)
          exact VM_iret dX4_visits_86 h19
        · refine VE_aload_n 2 dX4_visits_63 (k := ?_)
          refine VE_iload 7 dX4_visits_64 (k := ?_)
          refine VE_cVi [vI a5] dX4_visits_66 ml_X4_92 (((h13.1 c14).1 c15).2 c16) (fun r20 σ21 h22 => ?_) (rok_D d)
          refine VE_goto 86 dX4_visits_69 ?_
          exact VM_iret dX4_visits_86 h22
      · refine VE_bipush (-100) dX4_visits_50 (k := ?_)
        refine VE_iload 0 dX4_visits_52 (k := ?_)
        refine VE_isub dX4_visits_54 ?_
        exact VM_iret dX4_visits_55 ((h13.1 c14).2 c15)
    · refine VE_iload 0 dX4_visits_40 (k := ?_)
      exact VM_iret dX4_visits_42 (h13.2 c14)
  · refine VE_iload 0 dX4_visits_25 (k := ?_)
    exact VM_iret dX4_visits_27 (h9.2 c10)
theorem dX4_plan_0 : decode cX4_plan 0 = .ok (.aload_n 0, 1) := by decide +kernel
theorem dX4_plan_1 : decode cX4_plan 1 = .ok (.getfield 21, 3) := by decide +kernel
theorem dX4_plan_4 : decode cX4_plan 4 = .ok (.iload_n 1, 1) := by decide +kernel
theorem dX4_plan_5 : decode cX4_plan 5 = .ok (.invokevirtual 64, 3) := by decide +kernel
theorem dX4_plan_8 : decode cX4_plan 8 = .ok (.ifCond .eq 14, 3) := by decide +kernel
theorem dX4_plan_11 : decode cX4_plan 11 = .ok (.aload_n 0, 1) := by decide +kernel
theorem dX4_plan_12 : decode cX4_plan 12 = .ok (.getfield 21, 3) := by decide +kernel
theorem dX4_plan_15 : decode cX4_plan 15 = .ok (.iload_n 2, 1) := by decide +kernel
theorem dX4_plan_16 : decode cX4_plan 16 = .ok (.invokevirtual 64, 3) := by decide +kernel
theorem dX4_plan_19 : decode cX4_plan 19 = .ok (.ifCond .ne 5, 3) := by decide +kernel
theorem dX4_plan_22 : decode cX4_plan 22 = .ok (.iconst (-1), 1) := by decide +kernel
theorem dX4_plan_23 : decode cX4_plan 23 = .ok (.ireturn, 1) := by decide +kernel
theorem dX4_plan_24 : decode cX4_plan 24 = .ok (.iload_n 3, 1) := by decide +kernel
theorem dX4_plan_25 : decode cX4_plan 25 = .ok (.iconst (-1), 1) := by decide +kernel
theorem dX4_plan_26 : decode cX4_plan 26 = .ok (.if_icmp .lt 9, 3) := by decide +kernel
theorem dX4_plan_29 : decode cX4_plan 29 = .ok (.iload_n 3, 1) := by decide +kernel
theorem dX4_plan_30 : decode cX4_plan 30 = .ok (.bipush 6, 2) := by decide +kernel
theorem dX4_plan_32 : decode cX4_plan 32 = .ok (.if_icmp .lt 6, 3) := by decide +kernel
theorem dX4_plan_35 : decode cX4_plan 35 = .ok (.bipush (-2), 2) := by decide +kernel
theorem dX4_plan_37 : decode cX4_plan 37 = .ok (.ireturn, 1) := by decide +kernel
theorem dX4_plan_38 : decode cX4_plan 38 = .ok (.iload_n 3, 1) := by decide +kernel
theorem dX4_plan_39 : decode cX4_plan 39 = .ok (.iconst (-1), 1) := by decide +kernel
theorem dX4_plan_40 : decode cX4_plan 40 = .ok (.if_icmp .ne 14, 3) := by decide +kernel
theorem dX4_plan_43 : decode cX4_plan 43 = .ok (.iload_n 1, 1) := by decide +kernel
theorem dX4_plan_44 : decode cX4_plan 44 = .ok (.iload_n 2, 1) := by decide +kernel
theorem dX4_plan_45 : decode cX4_plan 45 = .ok (.if_icmp .ne 7, 3) := by decide +kernel
theorem dX4_plan_48 : decode cX4_plan 48 = .ok (.iconst 0, 1) := by decide +kernel
theorem dX4_plan_49 : decode cX4_plan 49 = .ok (.goto 4, 3) := by decide +kernel
theorem dX4_plan_52 : decode cX4_plan 52 = .ok (.iconst 2, 1) := by decide +kernel
theorem dX4_plan_53 : decode cX4_plan 53 = .ok (.ireturn, 1) := by decide +kernel
theorem dX4_plan_54 : decode cX4_plan 54 = .ok (.iload_n 1, 1) := by decide +kernel
theorem dX4_plan_55 : decode cX4_plan 55 = .ok (.iload_n 2, 1) := by decide +kernel
theorem dX4_plan_56 : decode cX4_plan 56 = .ok (.if_icmp .eq 8, 3) := by decide +kernel
theorem dX4_plan_59 : decode cX4_plan 59 = .ok (.iload_n 3, 1) := by decide +kernel
theorem dX4_plan_60 : decode cX4_plan 60 = .ok (.iconst 1, 1) := by decide +kernel
theorem dX4_plan_61 : decode cX4_plan 61 = .ok (.if_icmp .le 6, 3) := by decide +kernel
theorem dX4_plan_64 : decode cX4_plan 64 = .ok (.bipush (-9), 2) := by decide +kernel
theorem dX4_plan_66 : decode cX4_plan 66 = .ok (.ireturn, 1) := by decide +kernel
theorem dX4_plan_67 : decode cX4_plan 67 = .ok (.iload_n 3, 1) := by decide +kernel
theorem dX4_plan_68 : decode cX4_plan 68 = .ok (.ifCond .ne 7, 3) := by decide +kernel
theorem dX4_plan_71 : decode cX4_plan 71 = .ok (.iload_n 2, 1) := by decide +kernel
theorem dX4_plan_72 : decode cX4_plan 72 = .ok (.goto 4, 3) := by decide +kernel
theorem dX4_plan_75 : decode cX4_plan 75 = .ok (.iload_n 1, 1) := by decide +kernel
theorem dX4_plan_76 : decode cX4_plan 76 = .ok (.ireturn, 1) := by decide +kernel
set_option maxRecDepth 20000 in
theorem S_X4_plan_0 {g : GG} {d : Nat} {F : Int32 → St → Prop} (a1 : Int32) (a2 : Int32) (a3 : Int32) (σ : St) (h : (ME g d M_X0_has [vR 10, vI a1] σ (qI (fun r1 σ2 => ((r1 = 0 → F (-1) σ2) ∧ (¬ r1 = 0 → (ME g d M_X0_has [vR 10, vI a2] σ2 (qI (fun r5 σ6 => ((¬ r5 = 0 → ((a3 < (-1) → F (-2) σ6) ∧ (¬ a3 < (-1) → ((a3 < 6 → ((¬ a3 = (-1) → ((a1 = a2 → F (-9) σ6) ∧ (¬ a1 = a2 → ((a3 ≤ 1 → ((¬ a3 = 0 → F a1 σ6) ∧ (a3 = 0 → F a2 σ6))) ∧ (¬ a3 ≤ 1 → F (-9) σ6))))) ∧ (a3 = (-1) → ((¬ a1 = a2 → F 2 σ6) ∧ (a1 = a2 → F 0 σ6))))) ∧ (¬ a3 < 6 → F (-2) σ6))))) ∧ (r5 = 0 → F (-1) σ6))))))))))) : VM g (d + 1) M_X4_plan (qI F) 0 [(0, vR 0), (1, vI a1), (2, vI a2), (3, vI a3)] [] σ := by
  refine VE_aload_n 0 dX4_plan_0 (k := ?_)
  refine VE_getR 10 dX4_plan_1 fl_X4_21 ?_
  refine VE_iload_n 1 dX4_plan_4 (k := ?_)
  refine VE_cVi [vI a1] dX4_plan_5 ml_X4_64 h (fun r1 σ2 h3 => ?_) (rok_D d)
  refine VE_if_eq 22 dX4_plan_8 (fun c4 => ?_) (fun c4 => ?_)
  · refine VE_iconst (-1) dX4_plan_22 (k := ?_)
    exact VM_iret dX4_plan_23 (h3.1 c4)
  · refine VE_aload_n 0 dX4_plan_11 (k := ?_)
    refine VE_getR 10 dX4_plan_12 fl_X4_21 ?_
    refine VE_iload_n 2 dX4_plan_15 (k := ?_)
    refine VE_cVi [vI a2] dX4_plan_16 ml_X4_64 (h3.2 c4) (fun r5 σ6 h7 => ?_) (rok_D d)
    refine VE_if_ne 24 dX4_plan_19 (fun c8 => ?_) (fun c8 => ?_)
    · refine VE_iload_n 3 dX4_plan_24 (k := ?_)
      refine VE_iconst (-1) dX4_plan_25 (k := ?_)
      refine VE_icmp_lt 35 dX4_plan_26 (fun c9 => ?_) (fun c9 => ?_)
      · refine VE_bipush (-2) dX4_plan_35 (k := ?_)
        exact VM_iret dX4_plan_37 ((h7.1 c8).1 c9)
      · refine VE_iload_n 3 dX4_plan_29 (k := ?_)
        refine VE_bipush 6 dX4_plan_30 (k := ?_)
        refine VE_icmp_lt 38 dX4_plan_32 (fun c10 => ?_) (fun c10 => ?_)
        · refine VE_iload_n 3 dX4_plan_38 (k := ?_)
          refine VE_iconst (-1) dX4_plan_39 (k := ?_)
          refine VE_icmp_ne 54 dX4_plan_40 (fun c11 => ?_) (fun c11 => ?_)
          · refine VE_iload_n 1 dX4_plan_54 (k := ?_)
            refine VE_iload_n 2 dX4_plan_55 (k := ?_)
            refine VE_icmp_eq 64 dX4_plan_56 (fun c12 => ?_) (fun c12 => ?_)
            · refine VE_bipush (-9) dX4_plan_64 (k := ?_)
              exact VM_iret dX4_plan_66 (((((h7.1 c8).2 c9).1 c10).1 c11).1 c12)
            · refine VE_iload_n 3 dX4_plan_59 (k := ?_)
              refine VE_iconst 1 dX4_plan_60 (k := ?_)
              refine VE_icmp_le 67 dX4_plan_61 (fun c13 => ?_) (fun c13 => ?_)
              · refine VE_iload_n 3 dX4_plan_67 (k := ?_)
                refine VE_if_ne 75 dX4_plan_68 (fun c14 => ?_) (fun c14 => ?_)
                · refine VE_iload_n 1 dX4_plan_75 (k := ?_)
                  exact VM_iret dX4_plan_76 (((((((h7.1 c8).2 c9).1 c10).1 c11).2 c12).1 c13).1 c14)
                · refine VE_iload_n 2 dX4_plan_71 (k := ?_)
                  refine VE_goto 76 dX4_plan_72 ?_
                  exact VM_iret dX4_plan_76 (((((((h7.1 c8).2 c9).1 c10).1 c11).2 c12).1 c13).2 c14)
              · refine VE_bipush (-9) dX4_plan_64 (k := ?_)
                exact VM_iret dX4_plan_66 ((((((h7.1 c8).2 c9).1 c10).1 c11).2 c12).2 c13)
          · refine VE_iload_n 1 dX4_plan_43 (k := ?_)
            refine VE_iload_n 2 dX4_plan_44 (k := ?_)
            refine VE_icmp_ne 52 dX4_plan_45 (fun c15 => ?_) (fun c15 => ?_)
            · refine VE_iconst 2 dX4_plan_52 (k := ?_)
              exact VM_iret dX4_plan_53 (((((h7.1 c8).2 c9).1 c10).2 c11).1 c15)
            · refine VE_iconst 0 dX4_plan_48 (k := ?_)
              refine VE_goto 53 dX4_plan_49 ?_
              exact VM_iret dX4_plan_53 (((((h7.1 c8).2 c9).1 c10).2 c11).2 c15)
        · refine VE_bipush (-2) dX4_plan_35 (k := ?_)
          exact VM_iret dX4_plan_37 (((h7.1 c8).2 c9).2 c10)
    · refine VE_iconst (-1) dX4_plan_22 (k := ?_)
      exact VM_iret dX4_plan_23 (h7.2 c8)
theorem dX4_reading_0 : decode cX4_reading 0 = .ok (.aload_n 0, 1) := by decide +kernel
theorem dX4_reading_1 : decode cX4_reading 1 = .ok (.getfield 21, 3) := by decide +kernel
theorem dX4_reading_4 : decode cX4_reading 4 = .ok (.iload_n 2, 1) := by decide +kernel
theorem dX4_reading_5 : decode cX4_reading 5 = .ok (.invokevirtual 64, 3) := by decide +kernel
theorem dX4_reading_8 : decode cX4_reading 8 = .ok (.ifCond .eq 20, 3) := by decide +kernel
theorem dX4_reading_11 : decode cX4_reading 11 = .ok (.iload_n 3, 1) := by decide +kernel
theorem dX4_reading_12 : decode cX4_reading 12 = .ok (.bipush (-9), 2) := by decide +kernel
theorem dX4_reading_14 : decode cX4_reading 14 = .ok (.if_icmp .eq 16, 3) := by decide +kernel
theorem dX4_reading_17 : decode cX4_reading 17 = .ok (.aload_n 0, 1) := by decide +kernel
theorem dX4_reading_18 : decode cX4_reading 18 = .ok (.getfield 21, 3) := by decide +kernel
theorem dX4_reading_21 : decode cX4_reading 21 = .ok (.iload_n 3, 1) := by decide +kernel
theorem dX4_reading_22 : decode cX4_reading 22 = .ok (.invokevirtual 64, 3) := by decide +kernel
theorem dX4_reading_25 : decode cX4_reading 25 = .ok (.ifCond .ne 5, 3) := by decide +kernel
theorem dX4_reading_28 : decode cX4_reading 28 = .ok (.iconst (-1), 1) := by decide +kernel
theorem dX4_reading_29 : decode cX4_reading 29 = .ok (.ireturn, 1) := by decide +kernel
theorem dX4_reading_30 : decode cX4_reading 30 = .ok (.iload_n 1, 1) := by decide +kernel
theorem dX4_reading_31 : decode cX4_reading 31 = .ok (.ifCond .lt 9, 3) := by decide +kernel
theorem dX4_reading_34 : decode cX4_reading 34 = .ok (.iload_n 1, 1) := by decide +kernel
theorem dX4_reading_35 : decode cX4_reading 35 = .ok (.bipush 20, 2) := by decide +kernel
theorem dX4_reading_37 : decode cX4_reading 37 = .ok (.if_icmp .le 6, 3) := by decide +kernel
theorem dX4_reading_40 : decode cX4_reading 40 = .ok (.bipush (-2), 2) := by decide +kernel
theorem dX4_reading_42 : decode cX4_reading 42 = .ok (.ireturn, 1) := by decide +kernel
theorem dX4_reading_43 : decode cX4_reading 43 = .ok (.aload_n 0, 1) := by decide +kernel
theorem dX4_reading_44 : decode cX4_reading 44 = .ok (.getfield 35, 3) := by decide +kernel
theorem dX4_reading_47 : decode cX4_reading 47 = .ok (.getfield 59, 3) := by decide +kernel
theorem dX4_reading_50 : decode cX4_reading 50 = .ok (.bipush 8, 2) := by decide +kernel
theorem dX4_reading_52 : decode cX4_reading 52 = .ok (.if_icmp .lt 6, 3) := by decide +kernel
theorem dX4_reading_55 : decode cX4_reading 55 = .ok (.bipush (-4), 2) := by decide +kernel
theorem dX4_reading_57 : decode cX4_reading 57 = .ok (.ireturn, 1) := by decide +kernel
theorem dX4_reading_58 : decode cX4_reading 58 = .ok (.aload_n 0, 1) := by decide +kernel
theorem dX4_reading_59 : decode cX4_reading 59 = .ok (.getfield 35, 3) := by decide +kernel
theorem dX4_reading_62 : decode cX4_reading 62 = .ok (.iload_n 1, 1) := by decide +kernel
theorem dX4_reading_63 : decode cX4_reading 63 = .ok (.iload_n 2, 1) := by decide +kernel
theorem dX4_reading_64 : decode cX4_reading 64 = .ok (.iload_n 3, 1) := by decide +kernel
theorem dX4_reading_65 : decode cX4_reading 65 = .ok (.invokevirtual 98, 3) := by decide +kernel
theorem dX4_reading_68 : decode cX4_reading 68 = .ok (.ireturn, 1) := by decide +kernel
set_option maxRecDepth 20000 in
theorem S_X4_reading_0 {g : GG} {d : Nat} {F : Int32 → St → Prop} (a1 : Int32) (a2 : Int32) (a3 : Int32) (σ : St) (h : (ME g d M_X0_has [vR 10, vI a2] σ (qI (fun r1 σ2 => ((r1 = 0 → F (-1) σ2) ∧ (¬ r1 = 0 → ((a3 = (-9) → ((a1 < 0 → F (-2) σ2) ∧ (¬ a1 < 0 → ((a1 ≤ 20 → (((σ2 18 3) < 8 → (ME g d M_X2_add [vR 18, vI a1, vI a2, vI a3] σ2 (qI (fun r9 σ10 => F r9 σ10)))) ∧ (¬ (σ2 18 3) < 8 → F (-4) σ2))) ∧ (¬ a1 ≤ 20 → F (-2) σ2))))) ∧ (¬ a3 = (-9) → (ME g d M_X0_has [vR 10, vI a3] σ2 (qI (fun r12 σ13 => ((¬ r12 = 0 → ((a1 < 0 → F (-2) σ13) ∧ (¬ a1 < 0 → ((a1 ≤ 20 → (((σ13 18 3) < 8 → (ME g d M_X2_add [vR 18, vI a1, vI a2, vI a3] σ13 (qI (fun r19 σ20 => F r19 σ20)))) ∧ (¬ (σ13 18 3) < 8 → F (-4) σ13))) ∧ (¬ a1 ≤ 20 → F (-2) σ13))))) ∧ (r12 = 0 → F (-1) σ13))))))))))))) : VM g (d + 1) M_X4_reading (qI F) 0 [(0, vR 0), (1, vI a1), (2, vI a2), (3, vI a3)] [] σ := by
  refine VE_aload_n 0 dX4_reading_0 (k := ?_)
  refine VE_getR 10 dX4_reading_1 fl_X4_21 ?_
  refine VE_iload_n 2 dX4_reading_4 (k := ?_)
  refine VE_cVi [vI a2] dX4_reading_5 ml_X4_64 h (fun r1 σ2 h3 => ?_) (rok_D d)
  refine VE_if_eq 28 dX4_reading_8 (fun c4 => ?_) (fun c4 => ?_)
  · refine VE_iconst (-1) dX4_reading_28 (k := ?_)
    exact VM_iret dX4_reading_29 (h3.1 c4)
  · refine VE_iload_n 3 dX4_reading_11 (k := ?_)
    refine VE_bipush (-9) dX4_reading_12 (k := ?_)
    refine VE_icmp_eq 30 dX4_reading_14 (fun c5 => ?_) (fun c5 => ?_)
    · refine VE_iload_n 1 dX4_reading_30 (k := ?_)
      refine VE_if_lt 40 dX4_reading_31 (fun c6 => ?_) (fun c6 => ?_)
      · refine VE_bipush (-2) dX4_reading_40 (k := ?_)
        exact VM_iret dX4_reading_42 (((h3.2 c4).1 c5).1 c6)
      · refine VE_iload_n 1 dX4_reading_34 (k := ?_)
        refine VE_bipush 20 dX4_reading_35 (k := ?_)
        refine VE_icmp_le 43 dX4_reading_37 (fun c7 => ?_) (fun c7 => ?_)
        · refine VE_aload_n 0 dX4_reading_43 (k := ?_)
          refine VE_getR 18 dX4_reading_44 fl_X4_35 ?_
          refine VE_getI dX4_reading_47 fl_X4_59 ?_
          refine VE_bipush 8 dX4_reading_50 (k := ?_)
          refine VE_icmp_lt 58 dX4_reading_52 (fun c8 => ?_) (fun c8 => ?_)
          · refine VE_aload_n 0 dX4_reading_58 (k := ?_)
            refine VE_getR 18 dX4_reading_59 fl_X4_35 ?_
            refine VE_iload_n 1 dX4_reading_62 (k := ?_)
            refine VE_iload_n 2 dX4_reading_63 (k := ?_)
            refine VE_iload_n 3 dX4_reading_64 (k := ?_)
            refine VE_cVi [vI a1, vI a2, vI a3] dX4_reading_65 ml_X4_98 (((((h3.2 c4).1 c5).2 c6).1 c7).1 c8) (fun r9 σ10 h11 => ?_) (rok_D d)
            exact VM_iret dX4_reading_68 h11
          · refine VE_bipush (-4) dX4_reading_55 (k := ?_)
            exact VM_iret dX4_reading_57 (((((h3.2 c4).1 c5).2 c6).1 c7).2 c8)
        · refine VE_bipush (-2) dX4_reading_40 (k := ?_)
          exact VM_iret dX4_reading_42 ((((h3.2 c4).1 c5).2 c6).2 c7)
    · refine VE_aload_n 0 dX4_reading_17 (k := ?_)
      refine VE_getR 10 dX4_reading_18 fl_X4_21 ?_
      refine VE_iload_n 3 dX4_reading_21 (k := ?_)
      refine VE_cVi [vI a3] dX4_reading_22 ml_X4_64 ((h3.2 c4).2 c5) (fun r12 σ13 h14 => ?_) (rok_D d)
      refine VE_if_ne 30 dX4_reading_25 (fun c15 => ?_) (fun c15 => ?_)
      · refine VE_iload_n 1 dX4_reading_30 (k := ?_)
        refine VE_if_lt 40 dX4_reading_31 (fun c16 => ?_) (fun c16 => ?_)
        · refine VE_bipush (-2) dX4_reading_40 (k := ?_)
          exact VM_iret dX4_reading_42 ((h14.1 c15).1 c16)
        · refine VE_iload_n 1 dX4_reading_34 (k := ?_)
          refine VE_bipush 20 dX4_reading_35 (k := ?_)
          refine VE_icmp_le 43 dX4_reading_37 (fun c17 => ?_) (fun c17 => ?_)
          · refine VE_aload_n 0 dX4_reading_43 (k := ?_)
            refine VE_getR 18 dX4_reading_44 fl_X4_35 ?_
            refine VE_getI dX4_reading_47 fl_X4_59 ?_
            refine VE_bipush 8 dX4_reading_50 (k := ?_)
            refine VE_icmp_lt 58 dX4_reading_52 (fun c18 => ?_) (fun c18 => ?_)
            · refine VE_aload_n 0 dX4_reading_58 (k := ?_)
              refine VE_getR 18 dX4_reading_59 fl_X4_35 ?_
              refine VE_iload_n 1 dX4_reading_62 (k := ?_)
              refine VE_iload_n 2 dX4_reading_63 (k := ?_)
              refine VE_iload_n 3 dX4_reading_64 (k := ?_)
              refine VE_cVi [vI a1, vI a2, vI a3] dX4_reading_65 ml_X4_98 ((((h14.1 c15).2 c16).1 c17).1 c18) (fun r19 σ20 h21 => ?_) (rok_D d)
              exact VM_iret dX4_reading_68 h21
            · refine VE_bipush (-4) dX4_reading_55 (k := ?_)
              exact VM_iret dX4_reading_57 ((((h14.1 c15).2 c16).1 c17).2 c18)
          · refine VE_bipush (-2) dX4_reading_40 (k := ?_)
            exact VM_iret dX4_reading_42 (((h14.1 c15).2 c16).2 c17)
      · refine VE_iconst (-1) dX4_reading_28 (k := ?_)
        exact VM_iret dX4_reading_29 (h14.2 c15)
theorem dX4_back_0 : decode cX4_back 0 = .ok (.iload_n 1, 1) := by decide +kernel
theorem dX4_back_1 : decode cX4_back 1 = .ok (.ifCond .lt 14, 3) := by decide +kernel
theorem dX4_back_4 : decode cX4_back 4 = .ok (.iload_n 1, 1) := by decide +kernel
theorem dX4_back_5 : decode cX4_back 5 = .ok (.aload_n 0, 1) := by decide +kernel
theorem dX4_back_6 : decode cX4_back 6 = .ok (.getfield 35, 3) := by decide +kernel
theorem dX4_back_9 : decode cX4_back 9 = .ok (.getfield 59, 3) := by decide +kernel
theorem dX4_back_12 : decode cX4_back 12 = .ok (.if_icmp .le 6, 3) := by decide +kernel
theorem dX4_back_15 : decode cX4_back 15 = .ok (.bipush (-2), 2) := by decide +kernel
theorem dX4_back_17 : decode cX4_back 17 = .ok (.ireturn, 1) := by decide +kernel
theorem dX4_back_18 : decode cX4_back 18 = .ok (.aload_n 0, 1) := by decide +kernel
theorem dX4_back_19 : decode cX4_back 19 = .ok (.getfield 35, 3) := by decide +kernel
theorem dX4_back_22 : decode cX4_back 22 = .ok (.dup, 1) := by decide +kernel
theorem dX4_back_23 : decode cX4_back 23 = .ok (.getfield 59, 3) := by decide +kernel
theorem dX4_back_26 : decode cX4_back 26 = .ok (.iload_n 1, 1) := by decide +kernel
theorem dX4_back_27 : decode cX4_back 27 = .ok (.isub, 1) := by decide +kernel
theorem dX4_back_28 : decode cX4_back 28 = .ok (.putfield 59, 3) := by decide +kernel
theorem dX4_back_31 : decode cX4_back 31 = .ok (.aload_n 0, 1) := by decide +kernel
theorem dX4_back_32 : decode cX4_back 32 = .ok (.getfield 35, 3) := by decide +kernel
theorem dX4_back_35 : decode cX4_back 35 = .ok (.getfield 59, 3) := by decide +kernel
theorem dX4_back_38 : decode cX4_back 38 = .ok (.ireturn, 1) := by decide +kernel
set_option maxRecDepth 20000 in
theorem S_X4_back_0 {g : GG} {d : Nat} {F : Int32 → St → Prop} (a1 : Int32) (σ : St) (h : ((a1 < 0 → F (-2) σ) ∧ (¬ a1 < 0 → ((a1 ≤ (σ 18 3) → F ((σ 18 3) - a1) (sU σ 18 3 ((σ 18 3) - a1))) ∧ (¬ a1 ≤ (σ 18 3) → F (-2) σ))))) : VM g d M_X4_back (qI F) 0 [(0, vR 0), (1, vI a1)] [] σ := by
  refine VE_iload_n 1 dX4_back_0 (k := ?_)
  refine VE_if_lt 15 dX4_back_1 (fun c1 => ?_) (fun c1 => ?_)
  · refine VE_bipush (-2) dX4_back_15 (k := ?_)
    exact VM_iret dX4_back_17 (h.1 c1)
  · refine VE_iload_n 1 dX4_back_4 (k := ?_)
    refine VE_aload_n 0 dX4_back_5 (k := ?_)
    refine VE_getR 18 dX4_back_6 fl_X4_35 ?_
    refine VE_getI dX4_back_9 fl_X4_59 ?_
    refine VE_icmp_le 18 dX4_back_12 (fun c2 => ?_) (fun c2 => ?_)
    · refine VE_aload_n 0 dX4_back_18 (k := ?_)
      refine VE_getR 18 dX4_back_19 fl_X4_35 ?_
      refine VE_dup dX4_back_22 (k := ?_)
      refine VE_getI dX4_back_23 fl_X4_59 ?_
      refine VE_iload_n 1 dX4_back_26 (k := ?_)
      refine VE_isub dX4_back_27 ?_
      refine VE_put dX4_back_28 fl_X4_59 ?_
      refine VE_aload_n 0 dX4_back_31 (k := ?_)
      refine VE_getR 18 dX4_back_32 fl_X4_35 ?_
      refine VE_getI dX4_back_35 fl_X4_59 ?_
      exact VM_iret dX4_back_38 ((h.2 c1).1 c2)
    · refine VE_bipush (-2) dX4_back_15 (k := ?_)
      exact VM_iret dX4_back_17 ((h.2 c1).2 c2)
theorem dX4_who_0 : decode cX4_who 0 = .ok (.aload_n 0, 1) := by decide +kernel
theorem dX4_who_1 : decode cX4_who 1 = .ok (.aload_n 0, 1) := by decide +kernel
theorem dX4_who_2 : decode cX4_who 2 = .ok (.iload_n 2, 1) := by decide +kernel
theorem dX4_who_3 : decode cX4_who 3 = .ok (.iload_n 3, 1) := by decide +kernel
theorem dX4_who_4 : decode cX4_who 4 = .ok (.iload 4, 2) := by decide +kernel
theorem dX4_who_6 : decode cX4_who 6 = .ok (.iload 5, 2) := by decide +kernel
theorem dX4_who_8 : decode cX4_who 8 = .ok (.iload_n 1, 1) := by decide +kernel
theorem dX4_who_9 : decode cX4_who 9 = .ok (.ifCond .lt 13, 3) := by decide +kernel
theorem dX4_who_12 : decode cX4_who 12 = .ok (.iload_n 1, 1) := by decide +kernel
theorem dX4_who_13 : decode cX4_who 13 = .ok (.iload 5, 2) := by decide +kernel
theorem dX4_who_15 : decode cX4_who 15 = .ok (.if_icmp .ge 7, 3) := by decide +kernel
theorem dX4_who_18 : decode cX4_who 18 = .ok (.iconst 1, 1) := by decide +kernel
theorem dX4_who_19 : decode cX4_who 19 = .ok (.goto 4, 3) := by decide +kernel
theorem dX4_who_22 : decode cX4_who 22 = .ok (.iconst 0, 1) := by decide +kernel
theorem dX4_who_23 : decode cX4_who 23 = .ok (.invokevirtual 84, 3) := by decide +kernel
theorem dX4_who_26 : decode cX4_who 26 = .ok (.invokevirtual 47, 3) := by decide +kernel
theorem dX4_who_29 : decode cX4_who 29 = .ok (.istore 6, 2) := by decide +kernel
theorem dX4_who_31 : decode cX4_who 31 = .ok (.iload 6, 2) := by decide +kernel
theorem dX4_who_33 : decode cX4_who 33 = .ok (.ifCond .eq 6, 3) := by decide +kernel
theorem dX4_who_36 : decode cX4_who 36 = .ok (.iload 6, 2) := by decide +kernel
theorem dX4_who_38 : decode cX4_who 38 = .ok (.ireturn, 1) := by decide +kernel
theorem dX4_who_39 : decode cX4_who 39 = .ok (.iconst 0, 1) := by decide +kernel
theorem dX4_who_40 : decode cX4_who 40 = .ok (.istore 7, 2) := by decide +kernel
theorem dX4_who_42 : decode cX4_who 42 = .ok (.iconst 0, 1) := by decide +kernel
theorem dX4_who_43 : decode cX4_who 43 = .ok (.istore 8, 2) := by decide +kernel
theorem dX4_who_45 : decode cX4_who 45 = .ok (.iload 8, 2) := by decide +kernel
theorem dX4_who_47 : decode cX4_who 47 = .ok (.aload_n 0, 1) := by decide +kernel
theorem dX4_who_48 : decode cX4_who 48 = .ok (.getfield 21, 3) := by decide +kernel
theorem dX4_who_51 : decode cX4_who 51 = .ok (.getfield 63, 3) := by decide +kernel
theorem dX4_who_54 : decode cX4_who 54 = .ok (.if_icmp .ge 39, 3) := by decide +kernel
theorem dX4_who_57 : decode cX4_who 57 = .ok (.aload_n 0, 1) := by decide +kernel
theorem dX4_who_58 : decode cX4_who 58 = .ok (.getfield 39, 3) := by decide +kernel
theorem dX4_who_61 : decode cX4_who 61 = .ok (.iload_n 1, 1) := by decide +kernel
theorem dX4_who_62 : decode cX4_who 62 = .ok (.iload 8, 2) := by decide +kernel
theorem dX4_who_64 : decode cX4_who 64 = .ok (.iastore, 1) := by decide +kernel
theorem dX4_who_65 : decode cX4_who 65 = .ok (.aload_n 0, 1) := by decide +kernel
theorem dX4_who_66 : decode cX4_who 66 = .ok (.getfield 28, 3) := by decide +kernel
theorem dX4_who_69 : decode cX4_who 69 = .ok (.aload_n 0, 1) := by decide +kernel
theorem dX4_who_70 : decode cX4_who 70 = .ok (.getfield 21, 3) := by decide +kernel
theorem dX4_who_73 : decode cX4_who 73 = .ok (.invokevirtual 102, 3) := by decide +kernel
theorem dX4_who_76 : decode cX4_who 76 = .ok (.iload 7, 2) := by decide +kernel
theorem dX4_who_78 : decode cX4_who 78 = .ok (.aload_n 0, 1) := by decide +kernel
theorem dX4_who_79 : decode cX4_who 79 = .ok (.iload 8, 2) := by decide +kernel
theorem dX4_who_81 : decode cX4_who 81 = .ok (.invokevirtual 106, 3) := by decide +kernel
theorem dX4_who_84 : decode cX4_who 84 = .ok (.ior, 1) := by decide +kernel
theorem dX4_who_85 : decode cX4_who 85 = .ok (.istore 7, 2) := by decide +kernel
theorem dX4_who_87 : decode cX4_who 87 = .ok (.iinc 8 1, 3) := by decide +kernel
theorem dX4_who_90 : decode cX4_who 90 = .ok (.goto (-45), 3) := by decide +kernel
theorem dX4_who_93 : decode cX4_who 93 = .ok (.iload 7, 2) := by decide +kernel
theorem dX4_who_95 : decode cX4_who 95 = .ok (.ireturn, 1) := by decide +kernel
set_option maxRecDepth 20000 in
theorem S_X4_who_0 {g : GG} {d : Nat} {F : Int32 → St → Prop} (a1 : Int32) (a2 : Int32) (a3 : Int32) (a4 : Int32) (a5 : Int32) (σ : St) (h : ((a1 < 0 → (ME g d M_X4_troubleOfVisits [vR 0, vI a2, vI a3, vI a4, vI a5, vI 0] σ (qI (fun r2 σ3 => (ME g d M_X4_noted [vR 0, vI r2] σ3 (qI (fun r5 σ6 => ((r5 = 0 → VM g (d + 1) M_X4_who (qI F) 45 [(0, vR 0), (1, vI a1), (2, vI a2), (3, vI a3), (4, vI a4), (5, vI a5), (6, vI r5), (7, vI 0), (8, vI 0)] [] σ6) ∧ (¬ r5 = 0 → F r5 σ6))))))))) ∧ (¬ a1 < 0 → ((a5 ≤ a1 → (ME g d M_X4_troubleOfVisits [vR 0, vI a2, vI a3, vI a4, vI a5, vI 0] σ (qI (fun r10 σ11 => (ME g d M_X4_noted [vR 0, vI r10] σ11 (qI (fun r13 σ14 => ((r13 = 0 → VM g (d + 1) M_X4_who (qI F) 45 [(0, vR 0), (1, vI a1), (2, vI a2), (3, vI a3), (4, vI a4), (5, vI a5), (6, vI r13), (7, vI 0), (8, vI 0)] [] σ14) ∧ (¬ r13 = 0 → F r13 σ14))))))))) ∧ (¬ a5 ≤ a1 → (ME g d M_X4_troubleOfVisits [vR 0, vI a2, vI a3, vI a4, vI a5, vI 1] σ (qI (fun r17 σ18 => (ME g d M_X4_noted [vR 0, vI r17] σ18 (qI (fun r20 σ21 => ((r20 = 0 → VM g (d + 1) M_X4_who (qI F) 45 [(0, vR 0), (1, vI a1), (2, vI a2), (3, vI a3), (4, vI a4), (5, vI a5), (6, vI r20), (7, vI 0), (8, vI 0)] [] σ21) ∧ (¬ r20 = 0 → F r20 σ21))))))))))))) : VM g (d + 1) M_X4_who (qI F) 0 [(0, vR 0), (1, vI a1), (2, vI a2), (3, vI a3), (4, vI a4), (5, vI a5)] [] σ := by
  refine VE_aload_n 0 dX4_who_0 (k := ?_)
  refine VE_aload_n 0 dX4_who_1 (k := ?_)
  refine VE_iload_n 2 dX4_who_2 (k := ?_)
  refine VE_iload_n 3 dX4_who_3 (k := ?_)
  refine VE_iload 4 dX4_who_4 (k := ?_)
  refine VE_iload 5 dX4_who_6 (k := ?_)
  refine VE_iload_n 1 dX4_who_8 (k := ?_)
  refine VE_if_lt 22 dX4_who_9 (fun c1 => ?_) (fun c1 => ?_)
  · refine VE_iconst 0 dX4_who_22 (k := ?_)
    refine VE_cVi [vI a2, vI a3, vI a4, vI a5, vI 0] dX4_who_23 ml_X4_84 (h.1 c1) (fun r2 σ3 h4 => ?_) (rok_D d)
    refine VE_cVi [vI r2] dX4_who_26 ml_X4_47 h4 (fun r5 σ6 h7 => ?_) (rok_D d)
    refine VE_istore (ls' := [(6, vI r5), (0, vR 0), (1, vI a1), (2, vI a2), (3, vI a3), (4, vI a4), (5, vI a5)]) dX4_who_29 ?_
    refine VE_iload 0 dX4_who_31 (k := ?_)
    refine VE_if_eq 39 dX4_who_33 (fun c8 => ?_) (fun c8 => ?_)
    · refine VE_iconst 0 dX4_who_39 (k := ?_)
      refine VE_istore (ls' := [(7, vI 0), (6, vI r5), (0, vR 0), (1, vI a1), (2, vI a2), (3, vI a3), (4, vI a4), (5, vI a5)]) dX4_who_40 ?_
      refine VE_iconst 0 dX4_who_42 (k := ?_)
      refine VE_istore (ls' := [(8, vI 0), (7, vI 0), (6, vI r5), (0, vR 0), (1, vI a1), (2, vI a2), (3, vI a3), (4, vI a4), (5, vI a5)]) dX4_who_43 ?_
      exact VE_sub [3, 4, 5, 6, 7, 8, 2, 1, 0] rfl (h7.1 c8)
    · refine VE_iload 0 dX4_who_36 (k := ?_)
      exact VM_iret dX4_who_38 (h7.2 c8)
  · refine VE_iload_n 1 dX4_who_12 (k := ?_)
    refine VE_iload 5 dX4_who_13 (k := ?_)
    refine VE_icmp_ge 22 dX4_who_15 (fun c9 => ?_) (fun c9 => ?_)
    · refine VE_iconst 0 dX4_who_22 (k := ?_)
      refine VE_cVi [vI a2, vI a3, vI a4, vI a5, vI 0] dX4_who_23 ml_X4_84 ((h.2 c1).1 c9) (fun r10 σ11 h12 => ?_) (rok_D d)
      refine VE_cVi [vI r10] dX4_who_26 ml_X4_47 h12 (fun r13 σ14 h15 => ?_) (rok_D d)
      refine VE_istore (ls' := [(6, vI r13), (0, vR 0), (1, vI a1), (2, vI a2), (3, vI a3), (4, vI a4), (5, vI a5)]) dX4_who_29 ?_
      refine VE_iload 0 dX4_who_31 (k := ?_)
      refine VE_if_eq 39 dX4_who_33 (fun c16 => ?_) (fun c16 => ?_)
      · refine VE_iconst 0 dX4_who_39 (k := ?_)
        refine VE_istore (ls' := [(7, vI 0), (6, vI r13), (0, vR 0), (1, vI a1), (2, vI a2), (3, vI a3), (4, vI a4), (5, vI a5)]) dX4_who_40 ?_
        refine VE_iconst 0 dX4_who_42 (k := ?_)
        refine VE_istore (ls' := [(8, vI 0), (7, vI 0), (6, vI r13), (0, vR 0), (1, vI a1), (2, vI a2), (3, vI a3), (4, vI a4), (5, vI a5)]) dX4_who_43 ?_
        exact VE_sub [3, 4, 5, 6, 7, 8, 2, 1, 0] rfl (h15.1 c16)
      · refine VE_iload 0 dX4_who_36 (k := ?_)
        exact VM_iret dX4_who_38 (h15.2 c16)
    · refine VE_iconst 1 dX4_who_18 (k := ?_)
      refine VE_goto 23 dX4_who_19 ?_
      refine VE_cVi [vI a2, vI a3, vI a4, vI a5, vI 1] dX4_who_23 ml_X4_84 ((h.2 c1).2 c9) (fun r17 σ18 h19 => ?_) (rok_D d)
      refine VE_cVi [vI r17] dX4_who_26 ml_X4_47 h19 (fun r20 σ21 h22 => ?_) (rok_D d)
      refine VE_istore (ls' := [(6, vI r20), (0, vR 0), (1, vI a1), (2, vI a2), (3, vI a3), (4, vI a4), (5, vI a5)]) dX4_who_29 ?_
      refine VE_iload 0 dX4_who_31 (k := ?_)
      refine VE_if_eq 39 dX4_who_33 (fun c23 => ?_) (fun c23 => ?_)
      · refine VE_iconst 0 dX4_who_39 (k := ?_)
        refine VE_istore (ls' := [(7, vI 0), (6, vI r20), (0, vR 0), (1, vI a1), (2, vI a2), (3, vI a3), (4, vI a4), (5, vI a5)]) dX4_who_40 ?_
        refine VE_iconst 0 dX4_who_42 (k := ?_)
        refine VE_istore (ls' := [(8, vI 0), (7, vI 0), (6, vI r20), (0, vR 0), (1, vI a1), (2, vI a2), (3, vI a3), (4, vI a4), (5, vI a5)]) dX4_who_43 ?_
        exact VE_sub [3, 4, 5, 6, 7, 8, 2, 1, 0] rfl (h22.1 c23)
      · refine VE_iload 0 dX4_who_36 (k := ?_)
        exact VM_iret dX4_who_38 (h22.2 c23)
set_option maxRecDepth 20000 in
theorem S_X4_who_45 {g : GG} {d : Nat} {F : Int32 → St → Prop} (x1 : Int32) (x2 : Int32) (x3 : Int32) (x4 : Int32) (x5 : Int32) (x6 : Int32) (x7 : Int32) (x8 : Int32) (σ : St) (h : (((σ 10 3) ≤ x8 → F x7 σ) ∧ (¬ (σ 10 3) ≤ x8 → (vp_in x1 20 ∧ (ME g d M_X1_open [vR 14, vR 10] (sU σ 22 x1.toNatClampNeg x8) (qV (fun σ3 => (ME g d M_X4_bitIfAllSo [vR 0, vI x8] σ3 (qI (fun r5 σ6 => VM g (d + 1) M_X4_who (qI F) 45 [(0, vR 0), (1, vI x1), (2, vI x2), (3, vI x3), (4, vI x4), (5, vI x5), (6, vI x6), (7, vI (x7 ||| r5)), (8, vI (x8 + 1))] [] σ6)))))))))) : VM g (d + 1) M_X4_who (qI F) 45 [(0, vR 0), (1, vI x1), (2, vI x2), (3, vI x3), (4, vI x4), (5, vI x5), (6, vI x6), (7, vI x7), (8, vI x8)] [] σ := by
  refine VE_iload 8 dX4_who_45 (k := ?_)
  refine VE_aload_n 0 dX4_who_47 (k := ?_)
  refine VE_getR 10 dX4_who_48 fl_X4_21 ?_
  refine VE_getI dX4_who_51 fl_X4_63 ?_
  refine VE_icmp_ge 93 dX4_who_54 (fun c1 => ?_) (fun c1 => ?_)
  · refine VE_iload 7 dX4_who_93 (k := ?_)
    exact VM_iret dX4_who_95 (h.1 c1)
  · refine VE_aload_n 0 dX4_who_57 (k := ?_)
    refine VE_getR 22 dX4_who_58 fl_X4_39 ?_
    refine VE_iload_n 1 dX4_who_61 (k := ?_)
    refine VE_iload 8 dX4_who_62 (k := ?_)
    refine VE_iast dX4_who_64 (h.2 c1).1 ?_
    refine VE_aload_n 0 dX4_who_65 (k := ?_)
    refine VE_getR 14 dX4_who_66 fl_X4_28 ?_
    refine VE_aload_n 0 dX4_who_69 (k := ?_)
    refine VE_getR 10 dX4_who_70 fl_X4_21 ?_
    refine VE_cVv [vR 10] dX4_who_73 ml_X4_102 (h.2 c1).2 (fun σ3 h4 => ?_) (rok_D d)
    refine VE_iload 7 dX4_who_76 (k := ?_)
    refine VE_aload_n 0 dX4_who_78 (k := ?_)
    refine VE_iload 8 dX4_who_79 (k := ?_)
    refine VE_cVi [vI x8] dX4_who_81 ml_X4_106 h4 (fun r5 σ6 h7 => ?_) (rok_D d)
    refine VE_ior dX4_who_84 ?_
    refine VE_istore (ls' := [(7, vI (x7 ||| r5)), (0, vR 0), (1, vI x1), (2, vI x2), (3, vI x3), (4, vI x4), (5, vI x5), (6, vI x6), (8, vI x8)]) dX4_who_85 ?_
    refine VE_iinc 8 (x8 + 1) (ls' := [(8, vI (x8 + 1)), (7, vI (x7 ||| r5)), (0, vR 0), (1, vI x1), (2, vI x2), (3, vI x3), (4, vI x4), (5, vI x5), (6, vI x6)]) dX4_who_87 ?_
    refine VE_goto 45 dX4_who_90 ?_
    exact VE_sub [2, 3, 4, 5, 6, 7, 8, 1, 0] rfl h7
theorem dX4_kinds_0 : decode cX4_kinds 0 = .ok (.aload_n 0, 1) := by decide +kernel
theorem dX4_kinds_1 : decode cX4_kinds 1 = .ok (.aload_n 0, 1) := by decide +kernel
theorem dX4_kinds_2 : decode cX4_kinds 2 = .ok (.iload_n 1, 1) := by decide +kernel
theorem dX4_kinds_3 : decode cX4_kinds 3 = .ok (.iload_n 2, 1) := by decide +kernel
theorem dX4_kinds_4 : decode cX4_kinds 4 = .ok (.iload_n 3, 1) := by decide +kernel
theorem dX4_kinds_5 : decode cX4_kinds 5 = .ok (.iload 4, 2) := by decide +kernel
theorem dX4_kinds_7 : decode cX4_kinds 7 = .ok (.iload 5, 2) := by decide +kernel
theorem dX4_kinds_9 : decode cX4_kinds 9 = .ok (.invokevirtual 109, 3) := by decide +kernel
theorem dX4_kinds_12 : decode cX4_kinds 12 = .ok (.invokevirtual 47, 3) := by decide +kernel
theorem dX4_kinds_15 : decode cX4_kinds 15 = .ok (.istore 6, 2) := by decide +kernel
theorem dX4_kinds_17 : decode cX4_kinds 17 = .ok (.iload 6, 2) := by decide +kernel
theorem dX4_kinds_19 : decode cX4_kinds 19 = .ok (.ifCond .eq 6, 3) := by decide +kernel
theorem dX4_kinds_22 : decode cX4_kinds 22 = .ok (.iload 6, 2) := by decide +kernel
theorem dX4_kinds_24 : decode cX4_kinds 24 = .ok (.ireturn, 1) := by decide +kernel
theorem dX4_kinds_25 : decode cX4_kinds 25 = .ok (.iconst 0, 1) := by decide +kernel
theorem dX4_kinds_26 : decode cX4_kinds 26 = .ok (.istore 7, 2) := by decide +kernel
theorem dX4_kinds_28 : decode cX4_kinds 28 = .ok (.iconst 0, 1) := by decide +kernel
theorem dX4_kinds_29 : decode cX4_kinds 29 = .ok (.istore 8, 2) := by decide +kernel
theorem dX4_kinds_31 : decode cX4_kinds 31 = .ok (.iload 8, 2) := by decide +kernel
theorem dX4_kinds_33 : decode cX4_kinds 33 = .ok (.iconst 3, 1) := by decide +kernel
theorem dX4_kinds_34 : decode cX4_kinds 34 = .ok (.if_icmp .ge 54, 3) := by decide +kernel
theorem dX4_kinds_37 : decode cX4_kinds 37 = .ok (.aload_n 0, 1) := by decide +kernel
theorem dX4_kinds_38 : decode cX4_kinds 38 = .ok (.getfield 28, 3) := by decide +kernel
theorem dX4_kinds_41 : decode cX4_kinds 41 = .ok (.aload_n 0, 1) := by decide +kernel
theorem dX4_kinds_42 : decode cX4_kinds 42 = .ok (.getfield 21, 3) := by decide +kernel
theorem dX4_kinds_45 : decode cX4_kinds 45 = .ok (.invokevirtual 102, 3) := by decide +kernel
theorem dX4_kinds_48 : decode cX4_kinds 48 = .ok (.aload_n 0, 1) := by decide +kernel
theorem dX4_kinds_49 : decode cX4_kinds 49 = .ok (.getfield 28, 3) := by decide +kernel
theorem dX4_kinds_52 : decode cX4_kinds 52 = .ok (.getfield 113, 3) := by decide +kernel
theorem dX4_kinds_55 : decode cX4_kinds 55 = .ok (.iload_n 1, 1) := by decide +kernel
theorem dX4_kinds_56 : decode cX4_kinds 56 = .ok (.iload 8, 2) := by decide +kernel
theorem dX4_kinds_58 : decode cX4_kinds 58 = .ok (.aload_n 0, 1) := by decide +kernel
theorem dX4_kinds_59 : decode cX4_kinds 59 = .ok (.getfield 21, 3) := by decide +kernel
theorem dX4_kinds_62 : decode cX4_kinds 62 = .ok (.getfield 71, 3) := by decide +kernel
theorem dX4_kinds_65 : decode cX4_kinds 65 = .ok (.iload_n 1, 1) := by decide +kernel
theorem dX4_kinds_66 : decode cX4_kinds 66 = .ok (.iaload, 1) := by decide +kernel
theorem dX4_kinds_67 : decode cX4_kinds 67 = .ok (.invokestatic 77, 3) := by decide +kernel
theorem dX4_kinds_70 : decode cX4_kinds 70 = .ok (.iastore, 1) := by decide +kernel
theorem dX4_kinds_71 : decode cX4_kinds 71 = .ok (.iload 7, 2) := by decide +kernel
theorem dX4_kinds_73 : decode cX4_kinds 73 = .ok (.aload_n 0, 1) := by decide +kernel
theorem dX4_kinds_74 : decode cX4_kinds 74 = .ok (.iload 8, 2) := by decide +kernel
theorem dX4_kinds_76 : decode cX4_kinds 76 = .ok (.invokevirtual 106, 3) := by decide +kernel
theorem dX4_kinds_79 : decode cX4_kinds 79 = .ok (.ior, 1) := by decide +kernel
theorem dX4_kinds_80 : decode cX4_kinds 80 = .ok (.istore 7, 2) := by decide +kernel
theorem dX4_kinds_82 : decode cX4_kinds 82 = .ok (.iinc 8 1, 3) := by decide +kernel
theorem dX4_kinds_85 : decode cX4_kinds 85 = .ok (.goto (-54), 3) := by decide +kernel
theorem dX4_kinds_88 : decode cX4_kinds 88 = .ok (.iload 7, 2) := by decide +kernel
theorem dX4_kinds_90 : decode cX4_kinds 90 = .ok (.ireturn, 1) := by decide +kernel
set_option maxRecDepth 20000 in
theorem S_X4_kinds_0 {g : GG} {d : Nat} {F : Int32 → St → Prop} (a1 : Int32) (a2 : Int32) (a3 : Int32) (a4 : Int32) (a5 : Int32) (σ : St) (h : (ME g d M_X4_troubleOfOne [vR 0, vI a1, vI a2, vI a3, vI a4, vI a5] σ (qI (fun r1 σ2 => (ME g d M_X4_noted [vR 0, vI r1] σ2 (qI (fun r4 σ5 => ((r4 = 0 → VM g (d + 1) M_X4_kinds (qI F) 31 [(0, vR 0), (1, vI a1), (2, vI a2), (3, vI a3), (4, vI a4), (5, vI a5), (6, vI r4), (7, vI 0), (8, vI 0)] [] σ5) ∧ (¬ r4 = 0 → F r4 σ5))))))))) : VM g (d + 1) M_X4_kinds (qI F) 0 [(0, vR 0), (1, vI a1), (2, vI a2), (3, vI a3), (4, vI a4), (5, vI a5)] [] σ := by
  refine VE_aload_n 0 dX4_kinds_0 (k := ?_)
  refine VE_aload_n 0 dX4_kinds_1 (k := ?_)
  refine VE_iload_n 1 dX4_kinds_2 (k := ?_)
  refine VE_iload_n 2 dX4_kinds_3 (k := ?_)
  refine VE_iload_n 3 dX4_kinds_4 (k := ?_)
  refine VE_iload 4 dX4_kinds_5 (k := ?_)
  refine VE_iload 5 dX4_kinds_7 (k := ?_)
  refine VE_cVi [vI a1, vI a2, vI a3, vI a4, vI a5] dX4_kinds_9 ml_X4_109 h (fun r1 σ2 h3 => ?_) (rok_D d)
  refine VE_cVi [vI r1] dX4_kinds_12 ml_X4_47 h3 (fun r4 σ5 h6 => ?_) (rok_D d)
  refine VE_istore (ls' := [(6, vI r4), (0, vR 0), (1, vI a1), (2, vI a2), (3, vI a3), (4, vI a4), (5, vI a5)]) dX4_kinds_15 ?_
  refine VE_iload 0 dX4_kinds_17 (k := ?_)
  refine VE_if_eq 25 dX4_kinds_19 (fun c7 => ?_) (fun c7 => ?_)
  · refine VE_iconst 0 dX4_kinds_25 (k := ?_)
    refine VE_istore (ls' := [(7, vI 0), (6, vI r4), (0, vR 0), (1, vI a1), (2, vI a2), (3, vI a3), (4, vI a4), (5, vI a5)]) dX4_kinds_26 ?_
    refine VE_iconst 0 dX4_kinds_28 (k := ?_)
    refine VE_istore (ls' := [(8, vI 0), (7, vI 0), (6, vI r4), (0, vR 0), (1, vI a1), (2, vI a2), (3, vI a3), (4, vI a4), (5, vI a5)]) dX4_kinds_29 ?_
    exact VE_sub [3, 4, 5, 6, 7, 8, 2, 1, 0] rfl (h6.1 c7)
  · refine VE_iload 0 dX4_kinds_22 (k := ?_)
    exact VM_iret dX4_kinds_24 (h6.2 c7)
set_option maxRecDepth 20000 in
theorem S_X4_kinds_31 {g : GG} {d : Nat} {F : Int32 → St → Prop} (x1 : Int32) (x2 : Int32) (x3 : Int32) (x4 : Int32) (x5 : Int32) (x6 : Int32) (x7 : Int32) (x8 : Int32) (σ : St) (h : ((3 ≤ x8 → F x7 σ) ∧ (¬ 3 ≤ x8 → (ME g d M_X1_open [vR 14, vR 10] σ (qV (fun σ3 => (vp_in x1 5 ∧ (ME g d M_X4_lasting [vI x8, vI (σ3 12 x1.toNatClampNeg)] σ3 (qI (fun r5 σ6 => (ME g d M_X4_bitIfAllSo [vR 0, vI x8] (sU σ6 17 x1.toNatClampNeg r5) (qI (fun r8 σ9 => VM g (d + 1) M_X4_kinds (qI F) 31 [(0, vR 0), (1, vI x1), (2, vI x2), (3, vI x3), (4, vI x4), (5, vI x5), (6, vI x6), (7, vI (x7 ||| r8)), (8, vI (x8 + 1))] [] σ9))))))))))))) : VM g (d + 1) M_X4_kinds (qI F) 31 [(0, vR 0), (1, vI x1), (2, vI x2), (3, vI x3), (4, vI x4), (5, vI x5), (6, vI x6), (7, vI x7), (8, vI x8)] [] σ := by
  refine VE_iload 8 dX4_kinds_31 (k := ?_)
  refine VE_iconst 3 dX4_kinds_33 (k := ?_)
  refine VE_icmp_ge 88 dX4_kinds_34 (fun c1 => ?_) (fun c1 => ?_)
  · refine VE_iload 7 dX4_kinds_88 (k := ?_)
    exact VM_iret dX4_kinds_90 (h.1 c1)
  · refine VE_aload_n 0 dX4_kinds_37 (k := ?_)
    refine VE_getR 14 dX4_kinds_38 fl_X4_28 ?_
    refine VE_aload_n 0 dX4_kinds_41 (k := ?_)
    refine VE_getR 10 dX4_kinds_42 fl_X4_21 ?_
    refine VE_cVv [vR 10] dX4_kinds_45 ml_X4_102 (h.2 c1) (fun σ3 h4 => ?_) (rok_D d)
    refine VE_aload_n 0 dX4_kinds_48 (k := ?_)
    refine VE_getR 14 dX4_kinds_49 fl_X4_28 ?_
    refine VE_getR 17 dX4_kinds_52 fl_X4_113 ?_
    refine VE_iload_n 1 dX4_kinds_55 (k := ?_)
    refine VE_iload 8 dX4_kinds_56 (k := ?_)
    refine VE_aload_n 0 dX4_kinds_58 (k := ?_)
    refine VE_getR 10 dX4_kinds_59 fl_X4_21 ?_
    refine VE_getR 12 dX4_kinds_62 fl_X4_71 ?_
    refine VE_iload_n 1 dX4_kinds_65 (k := ?_)
    refine VE_iald dX4_kinds_66 h4.1 ?_
    refine VE_cSi [vI x8, vI (σ3 12 x1.toNatClampNeg)] dX4_kinds_67 ml_X4_77 h4.2 (fun r5 σ6 h7 => ?_) (rok_D d)
    refine VE_iast dX4_kinds_70 h4.1 ?_
    refine VE_iload 7 dX4_kinds_71 (k := ?_)
    refine VE_aload_n 0 dX4_kinds_73 (k := ?_)
    refine VE_iload 8 dX4_kinds_74 (k := ?_)
    refine VE_cVi [vI x8] dX4_kinds_76 ml_X4_106 h7 (fun r8 σ9 h10 => ?_) (rok_D d)
    refine VE_ior dX4_kinds_79 ?_
    refine VE_istore (ls' := [(7, vI (x7 ||| r8)), (0, vR 0), (1, vI x1), (2, vI x2), (3, vI x3), (4, vI x4), (5, vI x5), (6, vI x6), (8, vI x8)]) dX4_kinds_80 ?_
    refine VE_iinc 8 (x8 + 1) (ls' := [(8, vI (x8 + 1)), (7, vI (x7 ||| r8)), (0, vR 0), (1, vI x1), (2, vI x2), (3, vI x3), (4, vI x4), (5, vI x5), (6, vI x6)]) dX4_kinds_82 ?_
    refine VE_goto 31 dX4_kinds_85 ?_
    exact VE_sub [2, 3, 4, 5, 6, 7, 8, 1, 0] rfl h10
theorem dX4_wears_0 : decode cX4_wears 0 = .ok (.aload_n 0, 1) := by decide +kernel
theorem dX4_wears_1 : decode cX4_wears 1 = .ok (.aload_n 0, 1) := by decide +kernel
theorem dX4_wears_2 : decode cX4_wears 2 = .ok (.iload_n 1, 1) := by decide +kernel
theorem dX4_wears_3 : decode cX4_wears 3 = .ok (.iload_n 2, 1) := by decide +kernel
theorem dX4_wears_4 : decode cX4_wears 4 = .ok (.iload_n 3, 1) := by decide +kernel
theorem dX4_wears_5 : decode cX4_wears 5 = .ok (.iload 4, 2) := by decide +kernel
theorem dX4_wears_7 : decode cX4_wears 7 = .ok (.iload 5, 2) := by decide +kernel
theorem dX4_wears_9 : decode cX4_wears 9 = .ok (.invokevirtual 109, 3) := by decide +kernel
theorem dX4_wears_12 : decode cX4_wears 12 = .ok (.invokevirtual 47, 3) := by decide +kernel
theorem dX4_wears_15 : decode cX4_wears 15 = .ok (.istore 6, 2) := by decide +kernel
theorem dX4_wears_17 : decode cX4_wears 17 = .ok (.iload 6, 2) := by decide +kernel
theorem dX4_wears_19 : decode cX4_wears 19 = .ok (.ifCond .eq 6, 3) := by decide +kernel
theorem dX4_wears_22 : decode cX4_wears 22 = .ok (.iload 6, 2) := by decide +kernel
theorem dX4_wears_24 : decode cX4_wears 24 = .ok (.ireturn, 1) := by decide +kernel
theorem dX4_wears_25 : decode cX4_wears 25 = .ok (.iconst 0, 1) := by decide +kernel
theorem dX4_wears_26 : decode cX4_wears 26 = .ok (.istore 7, 2) := by decide +kernel
theorem dX4_wears_28 : decode cX4_wears 28 = .ok (.iconst 1, 1) := by decide +kernel
theorem dX4_wears_29 : decode cX4_wears 29 = .ok (.istore 8, 2) := by decide +kernel
theorem dX4_wears_31 : decode cX4_wears 31 = .ok (.iload 8, 2) := by decide +kernel
theorem dX4_wears_33 : decode cX4_wears 33 = .ok (.bipush 9, 2) := by decide +kernel
theorem dX4_wears_35 : decode cX4_wears 35 = .ok (.if_icmp .gt 54, 3) := by decide +kernel
theorem dX4_wears_38 : decode cX4_wears 38 = .ok (.aload_n 0, 1) := by decide +kernel
theorem dX4_wears_39 : decode cX4_wears 39 = .ok (.getfield 28, 3) := by decide +kernel
theorem dX4_wears_42 : decode cX4_wears 42 = .ok (.aload_n 0, 1) := by decide +kernel
theorem dX4_wears_43 : decode cX4_wears 43 = .ok (.getfield 21, 3) := by decide +kernel
theorem dX4_wears_46 : decode cX4_wears 46 = .ok (.invokevirtual 102, 3) := by decide +kernel
theorem dX4_wears_49 : decode cX4_wears 49 = .ok (.aload_n 0, 1) := by decide +kernel
theorem dX4_wears_50 : decode cX4_wears 50 = .ok (.getfield 28, 3) := by decide +kernel
theorem dX4_wears_53 : decode cX4_wears 53 = .ok (.getfield 113, 3) := by decide +kernel
theorem dX4_wears_56 : decode cX4_wears 56 = .ok (.iload_n 1, 1) := by decide +kernel
theorem dX4_wears_57 : decode cX4_wears 57 = .ok (.aload_n 0, 1) := by decide +kernel
theorem dX4_wears_58 : decode cX4_wears 58 = .ok (.getfield 21, 3) := by decide +kernel
theorem dX4_wears_61 : decode cX4_wears 61 = .ok (.getfield 68, 3) := by decide +kernel
theorem dX4_wears_64 : decode cX4_wears 64 = .ok (.iload_n 1, 1) := by decide +kernel
theorem dX4_wears_65 : decode cX4_wears 65 = .ok (.iaload, 1) := by decide +kernel
theorem dX4_wears_66 : decode cX4_wears 66 = .ok (.iload 8, 2) := by decide +kernel
theorem dX4_wears_68 : decode cX4_wears 68 = .ok (.invokestatic 77, 3) := by decide +kernel
theorem dX4_wears_71 : decode cX4_wears 71 = .ok (.iastore, 1) := by decide +kernel
theorem dX4_wears_72 : decode cX4_wears 72 = .ok (.iload 7, 2) := by decide +kernel
theorem dX4_wears_74 : decode cX4_wears 74 = .ok (.aload_n 0, 1) := by decide +kernel
theorem dX4_wears_75 : decode cX4_wears 75 = .ok (.iload 8, 2) := by decide +kernel
theorem dX4_wears_77 : decode cX4_wears 77 = .ok (.invokevirtual 106, 3) := by decide +kernel
theorem dX4_wears_80 : decode cX4_wears 80 = .ok (.ior, 1) := by decide +kernel
theorem dX4_wears_81 : decode cX4_wears 81 = .ok (.istore 7, 2) := by decide +kernel
theorem dX4_wears_83 : decode cX4_wears 83 = .ok (.iinc 8 1, 3) := by decide +kernel
theorem dX4_wears_86 : decode cX4_wears 86 = .ok (.goto (-55), 3) := by decide +kernel
theorem dX4_wears_89 : decode cX4_wears 89 = .ok (.iload 7, 2) := by decide +kernel
theorem dX4_wears_91 : decode cX4_wears 91 = .ok (.ireturn, 1) := by decide +kernel
set_option maxRecDepth 20000 in
theorem S_X4_wears_0 {g : GG} {d : Nat} {F : Int32 → St → Prop} (a1 : Int32) (a2 : Int32) (a3 : Int32) (a4 : Int32) (a5 : Int32) (σ : St) (h : (ME g d M_X4_troubleOfOne [vR 0, vI a1, vI a2, vI a3, vI a4, vI a5] σ (qI (fun r1 σ2 => (ME g d M_X4_noted [vR 0, vI r1] σ2 (qI (fun r4 σ5 => ((r4 = 0 → VM g (d + 1) M_X4_wears (qI F) 31 [(0, vR 0), (1, vI a1), (2, vI a2), (3, vI a3), (4, vI a4), (5, vI a5), (6, vI r4), (7, vI 0), (8, vI 1)] [] σ5) ∧ (¬ r4 = 0 → F r4 σ5))))))))) : VM g (d + 1) M_X4_wears (qI F) 0 [(0, vR 0), (1, vI a1), (2, vI a2), (3, vI a3), (4, vI a4), (5, vI a5)] [] σ := by
  refine VE_aload_n 0 dX4_wears_0 (k := ?_)
  refine VE_aload_n 0 dX4_wears_1 (k := ?_)
  refine VE_iload_n 1 dX4_wears_2 (k := ?_)
  refine VE_iload_n 2 dX4_wears_3 (k := ?_)
  refine VE_iload_n 3 dX4_wears_4 (k := ?_)
  refine VE_iload 4 dX4_wears_5 (k := ?_)
  refine VE_iload 5 dX4_wears_7 (k := ?_)
  refine VE_cVi [vI a1, vI a2, vI a3, vI a4, vI a5] dX4_wears_9 ml_X4_109 h (fun r1 σ2 h3 => ?_) (rok_D d)
  refine VE_cVi [vI r1] dX4_wears_12 ml_X4_47 h3 (fun r4 σ5 h6 => ?_) (rok_D d)
  refine VE_istore (ls' := [(6, vI r4), (0, vR 0), (1, vI a1), (2, vI a2), (3, vI a3), (4, vI a4), (5, vI a5)]) dX4_wears_15 ?_
  refine VE_iload 0 dX4_wears_17 (k := ?_)
  refine VE_if_eq 25 dX4_wears_19 (fun c7 => ?_) (fun c7 => ?_)
  · refine VE_iconst 0 dX4_wears_25 (k := ?_)
    refine VE_istore (ls' := [(7, vI 0), (6, vI r4), (0, vR 0), (1, vI a1), (2, vI a2), (3, vI a3), (4, vI a4), (5, vI a5)]) dX4_wears_26 ?_
    refine VE_iconst 1 dX4_wears_28 (k := ?_)
    refine VE_istore (ls' := [(8, vI 1), (7, vI 0), (6, vI r4), (0, vR 0), (1, vI a1), (2, vI a2), (3, vI a3), (4, vI a4), (5, vI a5)]) dX4_wears_29 ?_
    exact VE_sub [3, 4, 5, 6, 7, 8, 2, 1, 0] rfl (h6.1 c7)
  · refine VE_iload 0 dX4_wears_22 (k := ?_)
    exact VM_iret dX4_wears_24 (h6.2 c7)
set_option maxRecDepth 20000 in
theorem S_X4_wears_31 {g : GG} {d : Nat} {F : Int32 → St → Prop} (x1 : Int32) (x2 : Int32) (x3 : Int32) (x4 : Int32) (x5 : Int32) (x6 : Int32) (x7 : Int32) (x8 : Int32) (σ : St) (h : ((9 < x8 → F x7 σ) ∧ (¬ 9 < x8 → (ME g d M_X1_open [vR 14, vR 10] σ (qV (fun σ3 => (vp_in x1 5 ∧ (ME g d M_X4_lasting [vI (σ3 11 x1.toNatClampNeg), vI x8] σ3 (qI (fun r5 σ6 => (ME g d M_X4_bitIfAllSo [vR 0, vI x8] (sU σ6 17 x1.toNatClampNeg r5) (qI (fun r8 σ9 => VM g (d + 1) M_X4_wears (qI F) 31 [(0, vR 0), (1, vI x1), (2, vI x2), (3, vI x3), (4, vI x4), (5, vI x5), (6, vI x6), (7, vI (x7 ||| r8)), (8, vI (x8 + 1))] [] σ9))))))))))))) : VM g (d + 1) M_X4_wears (qI F) 31 [(0, vR 0), (1, vI x1), (2, vI x2), (3, vI x3), (4, vI x4), (5, vI x5), (6, vI x6), (7, vI x7), (8, vI x8)] [] σ := by
  refine VE_iload 8 dX4_wears_31 (k := ?_)
  refine VE_bipush 9 dX4_wears_33 (k := ?_)
  refine VE_icmp_gt 89 dX4_wears_35 (fun c1 => ?_) (fun c1 => ?_)
  · refine VE_iload 7 dX4_wears_89 (k := ?_)
    exact VM_iret dX4_wears_91 (h.1 c1)
  · refine VE_aload_n 0 dX4_wears_38 (k := ?_)
    refine VE_getR 14 dX4_wears_39 fl_X4_28 ?_
    refine VE_aload_n 0 dX4_wears_42 (k := ?_)
    refine VE_getR 10 dX4_wears_43 fl_X4_21 ?_
    refine VE_cVv [vR 10] dX4_wears_46 ml_X4_102 (h.2 c1) (fun σ3 h4 => ?_) (rok_D d)
    refine VE_aload_n 0 dX4_wears_49 (k := ?_)
    refine VE_getR 14 dX4_wears_50 fl_X4_28 ?_
    refine VE_getR 17 dX4_wears_53 fl_X4_113 ?_
    refine VE_iload_n 1 dX4_wears_56 (k := ?_)
    refine VE_aload_n 0 dX4_wears_57 (k := ?_)
    refine VE_getR 10 dX4_wears_58 fl_X4_21 ?_
    refine VE_getR 11 dX4_wears_61 fl_X4_68 ?_
    refine VE_iload_n 1 dX4_wears_64 (k := ?_)
    refine VE_iald dX4_wears_65 h4.1 ?_
    refine VE_iload 8 dX4_wears_66 (k := ?_)
    refine VE_cSi [vI (σ3 11 x1.toNatClampNeg), vI x8] dX4_wears_68 ml_X4_77 h4.2 (fun r5 σ6 h7 => ?_) (rok_D d)
    refine VE_iast dX4_wears_71 h4.1 ?_
    refine VE_iload 7 dX4_wears_72 (k := ?_)
    refine VE_aload_n 0 dX4_wears_74 (k := ?_)
    refine VE_iload 8 dX4_wears_75 (k := ?_)
    refine VE_cVi [vI x8] dX4_wears_77 ml_X4_106 h7 (fun r8 σ9 h10 => ?_) (rok_D d)
    refine VE_ior dX4_wears_80 ?_
    refine VE_istore (ls' := [(7, vI (x7 ||| r8)), (0, vR 0), (1, vI x1), (2, vI x2), (3, vI x3), (4, vI x4), (5, vI x5), (6, vI x6), (8, vI x8)]) dX4_wears_81 ?_
    refine VE_iinc 8 (x8 + 1) (ls' := [(8, vI (x8 + 1)), (7, vI (x7 ||| r8)), (0, vR 0), (1, vI x1), (2, vI x2), (3, vI x3), (4, vI x4), (5, vI x5), (6, vI x6)]) dX4_wears_83 ?_
    refine VE_goto 31 dX4_wears_86 ?_
    exact VE_sub [2, 3, 4, 5, 6, 7, 8, 1, 0] rfl h10
theorem dX4_odds_0 : decode cX4_odds 0 = .ok (.aload_n 0, 1) := by decide +kernel
theorem dX4_odds_1 : decode cX4_odds 1 = .ok (.getfield 21, 3) := by decide +kernel
theorem dX4_odds_4 : decode cX4_odds 4 = .ok (.iload_n 1, 1) := by decide +kernel
theorem dX4_odds_5 : decode cX4_odds 5 = .ok (.invokevirtual 64, 3) := by decide +kernel
theorem dX4_odds_8 : decode cX4_odds 8 = .ok (.ifCond .eq 14, 3) := by decide +kernel
theorem dX4_odds_11 : decode cX4_odds 11 = .ok (.aload_n 0, 1) := by decide +kernel
theorem dX4_odds_12 : decode cX4_odds 12 = .ok (.getfield 21, 3) := by decide +kernel
theorem dX4_odds_15 : decode cX4_odds 15 = .ok (.iload_n 2, 1) := by decide +kernel
theorem dX4_odds_16 : decode cX4_odds 16 = .ok (.invokevirtual 64, 3) := by decide +kernel
theorem dX4_odds_19 : decode cX4_odds 19 = .ok (.ifCond .ne 7, 3) := by decide +kernel
theorem dX4_odds_22 : decode cX4_odds 22 = .ok (.ldc2_w 116, 3) := by decide +kernel
theorem dX4_odds_25 : decode cX4_odds 25 = .ok (.lreturn, 1) := by decide +kernel
theorem dX4_odds_26 : decode cX4_odds 26 = .ok (.iload_n 3, 1) := by decide +kernel
theorem dX4_odds_27 : decode cX4_odds 27 = .ok (.ifCond .lt 19, 3) := by decide +kernel
theorem dX4_odds_30 : decode cX4_odds 30 = .ok (.iload_n 3, 1) := by decide +kernel
theorem dX4_odds_31 : decode cX4_odds 31 = .ok (.iconst 5, 1) := by decide +kernel
theorem dX4_odds_32 : decode cX4_odds 32 = .ok (.if_icmp .gt 14, 3) := by decide +kernel
theorem dX4_odds_35 : decode cX4_odds 35 = .ok (.iload 4, 2) := by decide +kernel
theorem dX4_odds_37 : decode cX4_odds 37 = .ok (.ifCond .lt 9, 3) := by decide +kernel
theorem dX4_odds_40 : decode cX4_odds 40 = .ok (.iload 4, 2) := by decide +kernel
theorem dX4_odds_42 : decode cX4_odds 42 = .ok (.iconst 1, 1) := by decide +kernel
theorem dX4_odds_43 : decode cX4_odds 43 = .ok (.if_icmp .le 7, 3) := by decide +kernel
theorem dX4_odds_46 : decode cX4_odds 46 = .ok (.ldc2_w 116, 3) := by decide +kernel
theorem dX4_odds_49 : decode cX4_odds 49 = .ok (.lreturn, 1) := by decide +kernel
theorem dX4_odds_50 : decode cX4_odds 50 = .ok (.iconst 1, 1) := by decide +kernel
theorem dX4_odds_51 : decode cX4_odds 51 = .ok (.istore 5, 2) := by decide +kernel
theorem dX4_odds_53 : decode cX4_odds 53 = .ok (.iconst 0, 1) := by decide +kernel
theorem dX4_odds_54 : decode cX4_odds 54 = .ok (.istore 6, 2) := by decide +kernel
theorem dX4_odds_56 : decode cX4_odds 56 = .ok (.iload 6, 2) := by decide +kernel
theorem dX4_odds_58 : decode cX4_odds 58 = .ok (.iload_n 3, 1) := by decide +kernel
theorem dX4_odds_59 : decode cX4_odds 59 = .ok (.if_icmp .ge 21, 3) := by decide +kernel
theorem dX4_odds_62 : decode cX4_odds 62 = .ok (.iload 5, 2) := by decide +kernel
theorem dX4_odds_64 : decode cX4_odds 64 = .ok (.aload_n 0, 1) := by decide +kernel
theorem dX4_odds_65 : decode cX4_odds 65 = .ok (.getfield 21, 3) := by decide +kernel
theorem dX4_odds_68 : decode cX4_odds 68 = .ok (.getfield 63, 3) := by decide +kernel
theorem dX4_odds_71 : decode cX4_odds 71 = .ok (.imul, 1) := by decide +kernel
theorem dX4_odds_72 : decode cX4_odds 72 = .ok (.istore 5, 2) := by decide +kernel
theorem dX4_odds_74 : decode cX4_odds 74 = .ok (.iinc 6 1, 3) := by decide +kernel
theorem dX4_odds_77 : decode cX4_odds 77 = .ok (.goto (-21), 3) := by decide +kernel
theorem dX4_odds_80 : decode cX4_odds 80 = .ok (.aload_n 0, 1) := by decide +kernel
theorem dX4_odds_81 : decode cX4_odds 81 = .ok (.getfield 28, 3) := by decide +kernel
theorem dX4_odds_84 : decode cX4_odds 84 = .ok (.aload_n 0, 1) := by decide +kernel
theorem dX4_odds_85 : decode cX4_odds 85 = .ok (.getfield 21, 3) := by decide +kernel
theorem dX4_odds_88 : decode cX4_odds 88 = .ok (.invokevirtual 102, 3) := by decide +kernel
theorem dX4_odds_91 : decode cX4_odds 91 = .ok (.aload_n 0, 1) := by decide +kernel
theorem dX4_odds_92 : decode cX4_odds 92 = .ok (.getfield 28, 3) := by decide +kernel
theorem dX4_odds_95 : decode cX4_odds 95 = .ok (.iload_n 1, 1) := by decide +kernel
theorem dX4_odds_96 : decode cX4_odds 96 = .ok (.iload_n 2, 1) := by decide +kernel
theorem dX4_odds_97 : decode cX4_odds 97 = .ok (.iload_n 3, 1) := by decide +kernel
theorem dX4_odds_98 : decode cX4_odds 98 = .ok (.invokestatic 118, 3) := by decide +kernel
theorem dX4_odds_101 : decode cX4_odds 101 = .ok (.istore 6, 2) := by decide +kernel
theorem dX4_odds_103 : decode cX4_odds 103 = .ok (.iload 6, 2) := by decide +kernel
theorem dX4_odds_105 : decode cX4_odds 105 = .ok (.iload 5, 2) := by decide +kernel
theorem dX4_odds_107 : decode cX4_odds 107 = .ok (.invokestatic 122, 3) := by decide +kernel
theorem dX4_odds_110 : decode cX4_odds 110 = .ok (.istore 7, 2) := by decide +kernel
theorem dX4_odds_112 : decode cX4_odds 112 = .ok (.iload 4, 2) := by decide +kernel
theorem dX4_odds_114 : decode cX4_odds 114 = .ok (.ifCond .ne 8, 3) := by decide +kernel
theorem dX4_odds_117 : decode cX4_odds 117 = .ok (.iload 6, 2) := by decide +kernel
theorem dX4_odds_119 : decode cX4_odds 119 = .ok (.goto 5, 3) := by decide +kernel
theorem dX4_odds_122 : decode cX4_odds 122 = .ok (.iload 5, 2) := by decide +kernel
theorem dX4_odds_124 : decode cX4_odds 124 = .ok (.iload 7, 2) := by decide +kernel
theorem dX4_odds_126 : decode cX4_odds 126 = .ok (.idiv, 1) := by decide +kernel
theorem dX4_odds_127 : decode cX4_odds 127 = .ok (.i2l, 1) := by decide +kernel
theorem dX4_odds_128 : decode cX4_odds 128 = .ok (.lreturn, 1) := by decide +kernel
set_option maxRecDepth 20000 in
theorem S_X4_odds_0 {g : GG} {d : Nat} {F : Int64 → St → Prop} (a1 : Int32) (a2 : Int32) (a3 : Int32) (a4 : Int32) (σ : St) (h : (ME g d M_X0_has [vR 10, vI a1] σ (qI (fun r1 σ2 => ((r1 = 0 → F (-9223372036854775808) σ2) ∧ (¬ r1 = 0 → (ME g d M_X0_has [vR 10, vI a2] σ2 (qI (fun r5 σ6 => ((¬ r5 = 0 → ((a3 < 0 → F (-9223372036854775808) σ6) ∧ (¬ a3 < 0 → ((5 < a3 → F (-9223372036854775808) σ6) ∧ (¬ 5 < a3 → ((a4 < 0 → F (-9223372036854775808) σ6) ∧ (¬ a4 < 0 → ((a4 ≤ 1 → VM g (d + 1) M_X4_odds (qL F) 56 [(0, vR 0), (1, vI a1), (2, vI a2), (3, vI a3), (4, vI a4), (5, vI 1), (6, vI 0)] [] σ6) ∧ (¬ a4 ≤ 1 → F (-9223372036854775808) σ6))))))))) ∧ (r5 = 0 → F (-9223372036854775808) σ6))))))))))) : VM g (d + 1) M_X4_odds (qL F) 0 [(0, vR 0), (1, vI a1), (2, vI a2), (3, vI a3), (4, vI a4)] [] σ := by
  refine VE_aload_n 0 dX4_odds_0 (k := ?_)
  refine VE_getR 10 dX4_odds_1 fl_X4_21 ?_
  refine VE_iload_n 1 dX4_odds_4 (k := ?_)
  refine VE_cVi [vI a1] dX4_odds_5 ml_X4_64 h (fun r1 σ2 h3 => ?_) (rok_D d)
  refine VE_if_eq 22 dX4_odds_8 (fun c4 => ?_) (fun c4 => ?_)
  · refine VE_ldc2 (-9223372036854775808) 361 dX4_odds_22 ⟨by decide +kernel, rfl⟩ ?_
    exact VM_lret dX4_odds_25 (h3.1 c4)
  · refine VE_aload_n 0 dX4_odds_11 (k := ?_)
    refine VE_getR 10 dX4_odds_12 fl_X4_21 ?_
    refine VE_iload_n 2 dX4_odds_15 (k := ?_)
    refine VE_cVi [vI a2] dX4_odds_16 ml_X4_64 (h3.2 c4) (fun r5 σ6 h7 => ?_) (rok_D d)
    refine VE_if_ne 26 dX4_odds_19 (fun c8 => ?_) (fun c8 => ?_)
    · refine VE_iload_n 3 dX4_odds_26 (k := ?_)
      refine VE_if_lt 46 dX4_odds_27 (fun c9 => ?_) (fun c9 => ?_)
      · refine VE_ldc2 (-9223372036854775808) 361 dX4_odds_46 ⟨by decide +kernel, rfl⟩ ?_
        exact VM_lret dX4_odds_49 ((h7.1 c8).1 c9)
      · refine VE_iload_n 3 dX4_odds_30 (k := ?_)
        refine VE_iconst 5 dX4_odds_31 (k := ?_)
        refine VE_icmp_gt 46 dX4_odds_32 (fun c10 => ?_) (fun c10 => ?_)
        · refine VE_ldc2 (-9223372036854775808) 361 dX4_odds_46 ⟨by decide +kernel, rfl⟩ ?_
          exact VM_lret dX4_odds_49 (((h7.1 c8).2 c9).1 c10)
        · refine VE_iload 4 dX4_odds_35 (k := ?_)
          refine VE_if_lt 46 dX4_odds_37 (fun c11 => ?_) (fun c11 => ?_)
          · refine VE_ldc2 (-9223372036854775808) 361 dX4_odds_46 ⟨by decide +kernel, rfl⟩ ?_
            exact VM_lret dX4_odds_49 ((((h7.1 c8).2 c9).2 c10).1 c11)
          · refine VE_iload 4 dX4_odds_40 (k := ?_)
            refine VE_iconst 1 dX4_odds_42 (k := ?_)
            refine VE_icmp_le 50 dX4_odds_43 (fun c12 => ?_) (fun c12 => ?_)
            · refine VE_iconst 1 dX4_odds_50 (k := ?_)
              refine VE_istore (ls' := [(5, vI 1), (0, vR 0), (1, vI a1), (2, vI a2), (3, vI a3), (4, vI a4)]) dX4_odds_51 ?_
              refine VE_iconst 0 dX4_odds_53 (k := ?_)
              refine VE_istore (ls' := [(6, vI 0), (5, vI 1), (0, vR 0), (1, vI a1), (2, vI a2), (3, vI a3), (4, vI a4)]) dX4_odds_54 ?_
              exact VE_sub [2, 3, 4, 5, 6, 1, 0] rfl (((((h7.1 c8).2 c9).2 c10).2 c11).1 c12)
            · refine VE_ldc2 (-9223372036854775808) 361 dX4_odds_46 ⟨by decide +kernel, rfl⟩ ?_
              exact VM_lret dX4_odds_49 (((((h7.1 c8).2 c9).2 c10).2 c11).2 c12)
    · refine VE_ldc2 (-9223372036854775808) 361 dX4_odds_22 ⟨by decide +kernel, rfl⟩ ?_
      exact VM_lret dX4_odds_25 (h7.2 c8)
set_option maxRecDepth 20000 in
theorem S_X4_odds_56 {g : GG} {d : Nat} {F : Int64 → St → Prop} (x1 : Int32) (x2 : Int32) (x3 : Int32) (x4 : Int32) (x5 : Int32) (x6 : Int32) (σ : St) (h : ((x3 ≤ x6 → (ME g d M_X1_open [vR 14, vR 10] σ (qV (fun σ3 => (ME g d M_X4_rowsTo [vR 14, vI x1, vI x2, vI x3] σ3 (qI (fun r5 σ6 => (ME g d M_X4_greatestDivisor [vI r5, vI x5] σ6 (qI (fun r8 σ9 => ((¬ x4 = 0 → (¬ r8 = 0 ∧ F ((x5 / r8).toInt64) σ9)) ∧ (x4 = 0 → (¬ r8 = 0 ∧ F ((r5 / r8).toInt64) σ9))))))))))))) ∧ (¬ x3 ≤ x6 → VM g (d + 1) M_X4_odds (qL F) 56 [(0, vR 0), (1, vI x1), (2, vI x2), (3, vI x3), (4, vI x4), (5, vI (x5 * (σ 10 3))), (6, vI (x6 + 1))] [] σ))) : VM g (d + 1) M_X4_odds (qL F) 56 [(0, vR 0), (1, vI x1), (2, vI x2), (3, vI x3), (4, vI x4), (5, vI x5), (6, vI x6)] [] σ := by
  refine VE_iload 6 dX4_odds_56 (k := ?_)
  refine VE_iload_n 3 dX4_odds_58 (k := ?_)
  refine VE_icmp_ge 80 dX4_odds_59 (fun c1 => ?_) (fun c1 => ?_)
  · refine VE_aload_n 0 dX4_odds_80 (k := ?_)
    refine VE_getR 14 dX4_odds_81 fl_X4_28 ?_
    refine VE_aload_n 0 dX4_odds_84 (k := ?_)
    refine VE_getR 10 dX4_odds_85 fl_X4_21 ?_
    refine VE_cVv [vR 10] dX4_odds_88 ml_X4_102 (h.1 c1) (fun σ3 h4 => ?_) (rok_D d)
    refine VE_aload_n 0 dX4_odds_91 (k := ?_)
    refine VE_getR 14 dX4_odds_92 fl_X4_28 ?_
    refine VE_iload_n 1 dX4_odds_95 (k := ?_)
    refine VE_iload_n 2 dX4_odds_96 (k := ?_)
    refine VE_iload_n 3 dX4_odds_97 (k := ?_)
    refine VE_cSi [vR 14, vI x1, vI x2, vI x3] dX4_odds_98 ml_X4_118 h4 (fun r5 σ6 h7 => ?_) (rok_D d)
    refine VE_istore (ls' := [(6, vI r5), (0, vR 0), (1, vI x1), (2, vI x2), (3, vI x3), (4, vI x4), (5, vI x5)]) dX4_odds_101 ?_
    refine VE_iload 0 dX4_odds_103 (k := ?_)
    refine VE_iload 6 dX4_odds_105 (k := ?_)
    refine VE_cSi [vI r5, vI x5] dX4_odds_107 ml_X4_122 h7 (fun r8 σ9 h10 => ?_) (rok_D d)
    refine VE_istore (ls' := [(7, vI r8), (6, vI r5), (0, vR 0), (1, vI x1), (2, vI x2), (3, vI x3), (4, vI x4), (5, vI x5)]) dX4_odds_110 ?_
    refine VE_iload 6 dX4_odds_112 (k := ?_)
    refine VE_if_ne 122 dX4_odds_114 (fun c11 => ?_) (fun c11 => ?_)
    · refine VE_iload 7 dX4_odds_122 (k := ?_)
      refine VE_iload 0 dX4_odds_124 (k := ?_)
      refine VE_idiv dX4_odds_126 (h10.1 c11).1 ?_
      refine VE_i2l dX4_odds_127 ?_
      exact VM_lret dX4_odds_128 (h10.1 c11).2
    · refine VE_iload 1 dX4_odds_117 (k := ?_)
      refine VE_goto 124 dX4_odds_119 ?_
      refine VE_iload 0 dX4_odds_124 (k := ?_)
      refine VE_idiv dX4_odds_126 (h10.2 c11).1 ?_
      refine VE_i2l dX4_odds_127 ?_
      exact VM_lret dX4_odds_128 (h10.2 c11).2
  · refine VE_iload 5 dX4_odds_62 (k := ?_)
    refine VE_aload_n 0 dX4_odds_64 (k := ?_)
    refine VE_getR 10 dX4_odds_65 fl_X4_21 ?_
    refine VE_getI dX4_odds_68 fl_X4_63 ?_
    refine VE_imul dX4_odds_71 ?_
    refine VE_istore (ls' := [(5, vI (x5 * (σ 10 3))), (0, vR 0), (1, vI x1), (2, vI x2), (3, vI x3), (4, vI x4), (6, vI x6)]) dX4_odds_72 ?_
    refine VE_iinc 6 (x6 + 1) (ls' := [(6, vI (x6 + 1)), (5, vI (x5 * (σ 10 3))), (0, vR 0), (1, vI x1), (2, vI x2), (3, vI x3), (4, vI x4)]) dX4_odds_74 ?_
    refine VE_goto 56 dX4_odds_77 ?_
    exact VE_sub [2, 3, 4, 5, 6, 1, 0] rfl (h.2 c1)
theorem dX4_sheet_0 : decode cX4_sheet 0 = .ok (.aload_n 0, 1) := by decide +kernel
theorem dX4_sheet_1 : decode cX4_sheet 1 = .ok (.aload_n 0, 1) := by decide +kernel
theorem dX4_sheet_2 : decode cX4_sheet 2 = .ok (.iload_n 1, 1) := by decide +kernel
theorem dX4_sheet_3 : decode cX4_sheet 3 = .ok (.iload_n 2, 1) := by decide +kernel
theorem dX4_sheet_4 : decode cX4_sheet 4 = .ok (.iload_n 3, 1) := by decide +kernel
theorem dX4_sheet_5 : decode cX4_sheet 5 = .ok (.invokevirtual 125, 3) := by decide +kernel
theorem dX4_sheet_8 : decode cX4_sheet 8 = .ok (.invokevirtual 47, 3) := by decide +kernel
theorem dX4_sheet_11 : decode cX4_sheet 11 = .ok (.istore 4, 2) := by decide +kernel
theorem dX4_sheet_13 : decode cX4_sheet 13 = .ok (.iload 4, 2) := by decide +kernel
theorem dX4_sheet_15 : decode cX4_sheet 15 = .ok (.ifCond .eq 6, 3) := by decide +kernel
theorem dX4_sheet_18 : decode cX4_sheet 18 = .ok (.iload 4, 2) := by decide +kernel
theorem dX4_sheet_20 : decode cX4_sheet 20 = .ok (.ireturn, 1) := by decide +kernel
theorem dX4_sheet_21 : decode cX4_sheet 21 = .ok (.aload_n 0, 1) := by decide +kernel
theorem dX4_sheet_22 : decode cX4_sheet 22 = .ok (.getfield 13, 3) := by decide +kernel
theorem dX4_sheet_25 : decode cX4_sheet 25 = .ok (.iload_n 1, 1) := by decide +kernel
theorem dX4_sheet_26 : decode cX4_sheet 26 = .ok (.aaload, 1) := by decide +kernel
theorem dX4_sheet_27 : decode cX4_sheet 27 = .ok (.iload_n 2, 1) := by decide +kernel
theorem dX4_sheet_28 : decode cX4_sheet 28 = .ok (.iload_n 3, 1) := by decide +kernel
theorem dX4_sheet_29 : decode cX4_sheet 29 = .ok (.invokevirtual 128, 3) := by decide +kernel
theorem dX4_sheet_32 : decode cX4_sheet 32 = .ok (.iconst 1, 1) := by decide +kernel
theorem dX4_sheet_33 : decode cX4_sheet 33 = .ok (.ireturn, 1) := by decide +kernel
set_option maxRecDepth 20000 in
theorem S_X4_sheet_0 {g : GG} {d : Nat} {F : Int32 → St → Prop} (a1 : Int32) (a2 : Int32) (a3 : Int32) (σ : St) (h : (ME g d M_X4_troubleOfNew [vR 0, vI a1, vI a2, vI a3] σ (qI (fun r1 σ2 => (ME g d M_X4_noted [vR 0, vI r1] σ2 (qI (fun r4 σ5 => ((r4 = 0 → (vp_in a1 4 ∧ (ME g d M_X3_renew [vR (2 + a1.toNatClampNeg), vI a2, vI a3] σ5 (qV (fun σ9 => F 1 σ9))))) ∧ (¬ r4 = 0 → F r4 σ5))))))))) : VM g (d + 1) M_X4_sheet (qI F) 0 [(0, vR 0), (1, vI a1), (2, vI a2), (3, vI a3)] [] σ := by
  refine VE_aload_n 0 dX4_sheet_0 (k := ?_)
  refine VE_aload_n 0 dX4_sheet_1 (k := ?_)
  refine VE_iload_n 1 dX4_sheet_2 (k := ?_)
  refine VE_iload_n 2 dX4_sheet_3 (k := ?_)
  refine VE_iload_n 3 dX4_sheet_4 (k := ?_)
  refine VE_cVi [vI a1, vI a2, vI a3] dX4_sheet_5 ml_X4_125 h (fun r1 σ2 h3 => ?_) (rok_D d)
  refine VE_cVi [vI r1] dX4_sheet_8 ml_X4_47 h3 (fun r4 σ5 h6 => ?_) (rok_D d)
  refine VE_istore (ls' := [(4, vI r4), (0, vR 0), (1, vI a1), (2, vI a2), (3, vI a3)]) dX4_sheet_11 ?_
  refine VE_iload 0 dX4_sheet_13 (k := ?_)
  refine VE_if_eq 21 dX4_sheet_15 (fun c7 => ?_) (fun c7 => ?_)
  · refine VE_aload_n 1 dX4_sheet_21 (k := ?_)
    refine VE_getR 1 dX4_sheet_22 fl_X4_13 ?_
    refine VE_iload_n 2 dX4_sheet_25 (k := ?_)
    refine VE_aald dX4_sheet_26 (h6.1 c7).1 ?_
    refine VE_iload_n 3 dX4_sheet_27 (k := ?_)
    refine VE_iload_n 4 dX4_sheet_28 (k := ?_)
    refine VE_cVv [vI a2, vI a3] dX4_sheet_29 ml_X4_128 (h6.1 c7).2 (fun σ9 h10 => ?_) (rok_D d) (hj := sh_ocl (vin_lt (h6.1 c7).1))
    refine VE_iconst 1 dX4_sheet_32 (k := ?_)
    exact VM_iret dX4_sheet_33 h10
  · refine VE_iload 0 dX4_sheet_18 (k := ?_)
    exact VM_iret dX4_sheet_20 (h6.2 c7)
theorem dX4_lose_0 : decode cX4_lose 0 = .ok (.iload_n 1, 1) := by decide +kernel
theorem dX4_lose_1 : decode cX4_lose 1 = .ok (.invokestatic 132, 3) := by decide +kernel
theorem dX4_lose_4 : decode cX4_lose 4 = .ok (.ifCond .ne 5, 3) := by decide +kernel
theorem dX4_lose_7 : decode cX4_lose 7 = .ok (.iconst (-1), 1) := by decide +kernel
theorem dX4_lose_8 : decode cX4_lose 8 = .ok (.ireturn, 1) := by decide +kernel
theorem dX4_lose_9 : decode cX4_lose 9 = .ok (.aload_n 0, 1) := by decide +kernel
theorem dX4_lose_10 : decode cX4_lose 10 = .ok (.getfield 13, 3) := by decide +kernel
theorem dX4_lose_13 : decode cX4_lose 13 = .ok (.iload_n 1, 1) := by decide +kernel
theorem dX4_lose_14 : decode cX4_lose 14 = .ok (.aaload, 1) := by decide +kernel
theorem dX4_lose_15 : decode cX4_lose 15 = .ok (.invokevirtual 135, 3) := by decide +kernel
theorem dX4_lose_18 : decode cX4_lose 18 = .ok (.ifCond .eq 7, 3) := by decide +kernel
theorem dX4_lose_21 : decode cX4_lose 21 = .ok (.iconst 0, 1) := by decide +kernel
theorem dX4_lose_22 : decode cX4_lose 22 = .ok (.goto 4, 3) := by decide +kernel
theorem dX4_lose_25 : decode cX4_lose 25 = .ok (.iconst 1, 1) := by decide +kernel
theorem dX4_lose_26 : decode cX4_lose 26 = .ok (.istore_n 2, 1) := by decide +kernel
theorem dX4_lose_27 : decode cX4_lose 27 = .ok (.aload_n 0, 1) := by decide +kernel
theorem dX4_lose_28 : decode cX4_lose 28 = .ok (.getfield 13, 3) := by decide +kernel
theorem dX4_lose_31 : decode cX4_lose 31 = .ok (.iload_n 1, 1) := by decide +kernel
theorem dX4_lose_32 : decode cX4_lose 32 = .ok (.aaload, 1) := by decide +kernel
theorem dX4_lose_33 : decode cX4_lose 33 = .ok (.bipush (-9), 2) := by decide +kernel
theorem dX4_lose_35 : decode cX4_lose 35 = .ok (.putfield 139, 3) := by decide +kernel
theorem dX4_lose_38 : decode cX4_lose 38 = .ok (.iload_n 2, 1) := by decide +kernel
theorem dX4_lose_39 : decode cX4_lose 39 = .ok (.ireturn, 1) := by decide +kernel
set_option maxRecDepth 20000 in
theorem S_X4_lose_0 {g : GG} {d : Nat} {F : Int32 → St → Prop} (a1 : Int32) (σ : St) (h : (ME g d M_X4_isSheet [vI a1] σ (qI (fun r1 σ2 => ((¬ r1 = 0 → (vp_in a1 4 ∧ (ME g d M_X3_isNothing [vR (2 + a1.toNatClampNeg)] σ2 (qI (fun r5 σ6 => ((r5 = 0 → F 1 (sU σ6 (2 + a1.toNatClampNeg) 2 (-9))) ∧ (¬ r5 = 0 → F 0 (sU σ6 (2 + a1.toNatClampNeg) 2 (-9))))))))) ∧ (r1 = 0 → F (-1) σ2)))))) : VM g (d + 1) M_X4_lose (qI F) 0 [(0, vR 0), (1, vI a1)] [] σ := by
  refine VE_iload_n 1 dX4_lose_0 (k := ?_)
  refine VE_cSi [vI a1] dX4_lose_1 ml_X4_132 h (fun r1 σ2 h3 => ?_) (rok_D d)
  refine VE_if_ne 9 dX4_lose_4 (fun c4 => ?_) (fun c4 => ?_)
  · refine VE_aload_n 0 dX4_lose_9 (k := ?_)
    refine VE_getR 1 dX4_lose_10 fl_X4_13 ?_
    refine VE_iload_n 1 dX4_lose_13 (k := ?_)
    refine VE_aald dX4_lose_14 (h3.1 c4).1 ?_
    refine VE_cVi [] dX4_lose_15 ml_X4_135 (h3.1 c4).2 (fun r5 σ6 h7 => ?_) (rok_D d) (hj := sh_ocl (vin_lt (h3.1 c4).1))
    refine VE_if_eq 25 dX4_lose_18 (fun c8 => ?_) (fun c8 => ?_)
    · refine VE_iconst 1 dX4_lose_25 (k := ?_)
      refine VE_istore_n (ls' := [(2, vI 1), (0, vR 0), (1, vI a1)]) dX4_lose_26 ?_
      refine VE_aload_n 1 dX4_lose_27 (k := ?_)
      refine VE_getR 1 dX4_lose_28 fl_X4_13 ?_
      refine VE_iload_n 2 dX4_lose_31 (k := ?_)
      refine VE_aald dX4_lose_32 (h3.1 c4).1 ?_
      refine VE_bipush (-9) dX4_lose_33 (k := ?_)
      refine VE_put dX4_lose_35 fl_X4_139 ?_ (sh_f2 (vin_lt (h3.1 c4).1))
      refine VE_iload_n 0 dX4_lose_38 (k := ?_)
      exact VM_iret dX4_lose_39 (h7.1 c8)
    · refine VE_iconst 0 dX4_lose_21 (k := ?_)
      refine VE_goto 26 dX4_lose_22 ?_
      refine VE_istore_n (ls' := [(2, vI 0), (0, vR 0), (1, vI a1)]) dX4_lose_26 ?_
      refine VE_aload_n 1 dX4_lose_27 (k := ?_)
      refine VE_getR 1 dX4_lose_28 fl_X4_13 ?_
      refine VE_iload_n 2 dX4_lose_31 (k := ?_)
      refine VE_aald dX4_lose_32 (h3.1 c4).1 ?_
      refine VE_bipush (-9) dX4_lose_33 (k := ?_)
      refine VE_put dX4_lose_35 fl_X4_139 ?_ (sh_f2 (vin_lt (h3.1 c4).1))
      refine VE_iload_n 0 dX4_lose_38 (k := ?_)
      exact VM_iret dX4_lose_39 (h7.2 c8)
  · refine VE_iconst (-1) dX4_lose_7 (k := ?_)
    exact VM_iret dX4_lose_8 (h3.2 c4)
theorem dX4_put_0 : decode cX4_put 0 = .ok (.aload_n 0, 1) := by decide +kernel
theorem dX4_put_1 : decode cX4_put 1 = .ok (.aload_n 0, 1) := by decide +kernel
theorem dX4_put_2 : decode cX4_put 2 = .ok (.iload_n 1, 1) := by decide +kernel
theorem dX4_put_3 : decode cX4_put 3 = .ok (.iload_n 2, 1) := by decide +kernel
theorem dX4_put_4 : decode cX4_put 4 = .ok (.invokevirtual 142, 3) := by decide +kernel
theorem dX4_put_7 : decode cX4_put 7 = .ok (.invokevirtual 47, 3) := by decide +kernel
theorem dX4_put_10 : decode cX4_put 10 = .ok (.istore 4, 2) := by decide +kernel
theorem dX4_put_12 : decode cX4_put 12 = .ok (.iload 4, 2) := by decide +kernel
theorem dX4_put_14 : decode cX4_put 14 = .ok (.ifCond .eq 6, 3) := by decide +kernel
theorem dX4_put_17 : decode cX4_put 17 = .ok (.iload 4, 2) := by decide +kernel
theorem dX4_put_19 : decode cX4_put 19 = .ok (.ireturn, 1) := by decide +kernel
theorem dX4_put_20 : decode cX4_put 20 = .ok (.aload_n 0, 1) := by decide +kernel
theorem dX4_put_21 : decode cX4_put 21 = .ok (.getfield 13, 3) := by decide +kernel
theorem dX4_put_24 : decode cX4_put 24 = .ok (.iload_n 1, 1) := by decide +kernel
theorem dX4_put_25 : decode cX4_put 25 = .ok (.aaload, 1) := by decide +kernel
theorem dX4_put_26 : decode cX4_put 26 = .ok (.getfield 145, 3) := by decide +kernel
theorem dX4_put_29 : decode cX4_put 29 = .ok (.iload_n 2, 1) := by decide +kernel
theorem dX4_put_30 : decode cX4_put 30 = .ok (.iload_n 3, 1) := by decide +kernel
theorem dX4_put_31 : decode cX4_put 31 = .ok (.aload_n 0, 1) := by decide +kernel
theorem dX4_put_32 : decode cX4_put 32 = .ok (.getfield 13, 3) := by decide +kernel
theorem dX4_put_35 : decode cX4_put 35 = .ok (.iload_n 1, 1) := by decide +kernel
theorem dX4_put_36 : decode cX4_put 36 = .ok (.aaload, 1) := by decide +kernel
theorem dX4_put_37 : decode cX4_put 37 = .ok (.getfield 148, 3) := by decide +kernel
theorem dX4_put_40 : decode cX4_put 40 = .ok (.invokestatic 151, 3) := by decide +kernel
theorem dX4_put_43 : decode cX4_put 43 = .ok (.iastore, 1) := by decide +kernel
theorem dX4_put_44 : decode cX4_put 44 = .ok (.iconst 1, 1) := by decide +kernel
theorem dX4_put_45 : decode cX4_put 45 = .ok (.ireturn, 1) := by decide +kernel
set_option maxRecDepth 20000 in
theorem S_X4_put_0 {g : GG} {d : Nat} {F : Int32 → St → Prop} (a1 : Int32) (a2 : Int32) (a3 : Int32) (σ : St) (h : (ME g d M_X4_troubleOfPut [vR 0, vI a1, vI a2] σ (qI (fun r1 σ2 => (ME g d M_X4_noted [vR 0, vI r1] σ2 (qI (fun r4 σ5 => ((r4 = 0 → (vp_in a1 4 ∧ (ME g d M_X4_cut [vI a3, vI (σ5 (2 + a1.toNatClampNeg) 1)] σ5 (qI (fun r8 σ9 => (vp_in a2 60 ∧ F 1 (sU σ9 (6 + a1.toNatClampNeg) a2.toNatClampNeg r8))))))) ∧ (¬ r4 = 0 → F r4 σ5))))))))) : VM g (d + 1) M_X4_put (qI F) 0 [(0, vR 0), (1, vI a1), (2, vI a2), (3, vI a3)] [] σ := by
  refine VE_aload_n 0 dX4_put_0 (k := ?_)
  refine VE_aload_n 0 dX4_put_1 (k := ?_)
  refine VE_iload_n 1 dX4_put_2 (k := ?_)
  refine VE_iload_n 2 dX4_put_3 (k := ?_)
  refine VE_cVi [vI a1, vI a2] dX4_put_4 ml_X4_142 h (fun r1 σ2 h3 => ?_) (rok_D d)
  refine VE_cVi [vI r1] dX4_put_7 ml_X4_47 h3 (fun r4 σ5 h6 => ?_) (rok_D d)
  refine VE_istore (ls' := [(4, vI r4), (0, vR 0), (1, vI a1), (2, vI a2), (3, vI a3)]) dX4_put_10 ?_
  refine VE_iload 0 dX4_put_12 (k := ?_)
  refine VE_if_eq 20 dX4_put_14 (fun c7 => ?_) (fun c7 => ?_)
  · refine VE_aload_n 1 dX4_put_20 (k := ?_)
    refine VE_getR 1 dX4_put_21 fl_X4_13 ?_
    refine VE_iload_n 2 dX4_put_24 (k := ?_)
    refine VE_aald dX4_put_25 (h6.1 c7).1 ?_
    refine VE_getR (6 + a1.toNatClampNeg) dX4_put_26 fl_X4_145 ?_ (sh_f0 (vin_lt (h6.1 c7).1))
    refine VE_iload_n 3 dX4_put_29 (k := ?_)
    refine VE_iload_n 4 dX4_put_30 (k := ?_)
    refine VE_aload_n 1 dX4_put_31 (k := ?_)
    refine VE_getR 1 dX4_put_32 fl_X4_13 ?_
    refine VE_iload_n 2 dX4_put_35 (k := ?_)
    refine VE_aald dX4_put_36 (h6.1 c7).1 ?_
    refine VE_getI dX4_put_37 fl_X4_148 ?_ (sh_f1 (vin_lt (h6.1 c7).1))
    refine VE_cSi [vI a3, vI (σ5 (2 + a1.toNatClampNeg) 1)] dX4_put_40 ml_X4_151 (h6.1 c7).2 (fun r8 σ9 h10 => ?_) (rok_D d)
    refine VE_iast dX4_put_43 (sh_in (vin_lt (h6.1 c7).1) h10.1) ?_ (sh_A (vin_lt (h6.1 c7).1))
    refine VE_iconst 1 dX4_put_44 (k := ?_)
    exact VM_iret dX4_put_45 h10.2
  · refine VE_iload 0 dX4_put_17 (k := ?_)
    exact VM_iret dX4_put_19 (h6.2 c7)
theorem dX4_cell_0 : decode cX4_cell 0 = .ok (.aload_n 0, 1) := by decide +kernel
theorem dX4_cell_1 : decode cX4_cell 1 = .ok (.aload_n 0, 1) := by decide +kernel
theorem dX4_cell_2 : decode cX4_cell 2 = .ok (.iload_n 1, 1) := by decide +kernel
theorem dX4_cell_3 : decode cX4_cell 3 = .ok (.iload_n 3, 1) := by decide +kernel
theorem dX4_cell_4 : decode cX4_cell 4 = .ok (.iload_n 2, 1) := by decide +kernel
theorem dX4_cell_5 : decode cX4_cell 5 = .ok (.iconst 1, 1) := by decide +kernel
theorem dX4_cell_6 : decode cX4_cell 6 = .ok (.invokevirtual 43, 3) := by decide +kernel
theorem dX4_cell_9 : decode cX4_cell 9 = .ok (.invokevirtual 47, 3) := by decide +kernel
theorem dX4_cell_12 : decode cX4_cell 12 = .ok (.istore 4, 2) := by decide +kernel
theorem dX4_cell_14 : decode cX4_cell 14 = .ok (.iload 4, 2) := by decide +kernel
theorem dX4_cell_16 : decode cX4_cell 16 = .ok (.ifCond .eq 9, 3) := by decide +kernel
theorem dX4_cell_19 : decode cX4_cell 19 = .ok (.ldc2_w 116, 3) := by decide +kernel
theorem dX4_cell_22 : decode cX4_cell 22 = .ok (.goto 15, 3) := by decide +kernel
theorem dX4_cell_25 : decode cX4_cell 25 = .ok (.aload_n 0, 1) := by decide +kernel
theorem dX4_cell_26 : decode cX4_cell 26 = .ok (.getfield 13, 3) := by decide +kernel
theorem dX4_cell_29 : decode cX4_cell 29 = .ok (.iload_n 1, 1) := by decide +kernel
theorem dX4_cell_30 : decode cX4_cell 30 = .ok (.aaload, 1) := by decide +kernel
theorem dX4_cell_31 : decode cX4_cell 31 = .ok (.getfield 145, 3) := by decide +kernel
theorem dX4_cell_34 : decode cX4_cell 34 = .ok (.iload_n 2, 1) := by decide +kernel
theorem dX4_cell_35 : decode cX4_cell 35 = .ok (.iaload, 1) := by decide +kernel
theorem dX4_cell_36 : decode cX4_cell 36 = .ok (.i2l, 1) := by decide +kernel
theorem dX4_cell_37 : decode cX4_cell 37 = .ok (.lreturn, 1) := by decide +kernel
set_option maxRecDepth 20000 in
theorem S_X4_cell_0 {g : GG} {d : Nat} {F : Int64 → St → Prop} (a1 : Int32) (a2 : Int32) (a3 : Int32) (σ : St) (h : (ME g d M_X4_troubleOfCells [vR 0, vI a1, vI a3, vI a2, vI 1] σ (qI (fun r1 σ2 => (ME g d M_X4_noted [vR 0, vI r1] σ2 (qI (fun r4 σ5 => ((r4 = 0 → (vp_in a1 4 ∧ (vp_in a2 60 ∧ F ((σ5 (6 + a1.toNatClampNeg) a2.toNatClampNeg).toInt64) σ5))) ∧ (¬ r4 = 0 → F (-9223372036854775808) σ5))))))))) : VM g (d + 1) M_X4_cell (qL F) 0 [(0, vR 0), (1, vI a1), (2, vI a2), (3, vI a3)] [] σ := by
  refine VE_aload_n 0 dX4_cell_0 (k := ?_)
  refine VE_aload_n 0 dX4_cell_1 (k := ?_)
  refine VE_iload_n 1 dX4_cell_2 (k := ?_)
  refine VE_iload_n 3 dX4_cell_3 (k := ?_)
  refine VE_iload_n 2 dX4_cell_4 (k := ?_)
  refine VE_iconst 1 dX4_cell_5 (k := ?_)
  refine VE_cVi [vI a1, vI a3, vI a2, vI 1] dX4_cell_6 ml_X4_43 h (fun r1 σ2 h3 => ?_) (rok_D d)
  refine VE_cVi [vI r1] dX4_cell_9 ml_X4_47 h3 (fun r4 σ5 h6 => ?_) (rok_D d)
  refine VE_istore (ls' := [(4, vI r4), (0, vR 0), (1, vI a1), (2, vI a2), (3, vI a3)]) dX4_cell_12 ?_
  refine VE_iload 0 dX4_cell_14 (k := ?_)
  refine VE_if_eq 25 dX4_cell_16 (fun c7 => ?_) (fun c7 => ?_)
  · refine VE_aload_n 1 dX4_cell_25 (k := ?_)
    refine VE_getR 1 dX4_cell_26 fl_X4_13 ?_
    refine VE_iload_n 2 dX4_cell_29 (k := ?_)
    refine VE_aald dX4_cell_30 (h6.1 c7).1 ?_
    refine VE_getR (6 + a1.toNatClampNeg) dX4_cell_31 fl_X4_145 ?_ (sh_f0 (vin_lt (h6.1 c7).1))
    refine VE_iload_n 3 dX4_cell_34 (k := ?_)
    refine VE_iald dX4_cell_35 (sh_in (vin_lt (h6.1 c7).1) (h6.1 c7).2.1) ?_ (sh_A (vin_lt (h6.1 c7).1))
    refine VE_i2l dX4_cell_36 ?_
    exact VM_lret dX4_cell_37 (h6.1 c7).2.2
  · refine VE_ldc2 (-9223372036854775808) 361 dX4_cell_19 ⟨by decide +kernel, rfl⟩ ?_
    refine VE_goto 37 dX4_cell_22 ?_
    exact VM_lret dX4_cell_37 (h6.2 c7)
theorem dX4_copy_0 : decode cX4_copy 0 = .ok (.aload_n 0, 1) := by decide +kernel
theorem dX4_copy_1 : decode cX4_copy 1 = .ok (.aload_n 0, 1) := by decide +kernel
theorem dX4_copy_2 : decode cX4_copy 2 = .ok (.iload_n 1, 1) := by decide +kernel
theorem dX4_copy_3 : decode cX4_copy 3 = .ok (.iload_n 2, 1) := by decide +kernel
theorem dX4_copy_4 : decode cX4_copy 4 = .ok (.iload_n 3, 1) := by decide +kernel
theorem dX4_copy_5 : decode cX4_copy 5 = .ok (.iload 4, 2) := by decide +kernel
theorem dX4_copy_7 : decode cX4_copy 7 = .ok (.iload 5, 2) := by decide +kernel
theorem dX4_copy_9 : decode cX4_copy 9 = .ok (.invokevirtual 154, 3) := by decide +kernel
theorem dX4_copy_12 : decode cX4_copy 12 = .ok (.invokevirtual 47, 3) := by decide +kernel
theorem dX4_copy_15 : decode cX4_copy 15 = .ok (.istore 6, 2) := by decide +kernel
theorem dX4_copy_17 : decode cX4_copy 17 = .ok (.iload 6, 2) := by decide +kernel
theorem dX4_copy_19 : decode cX4_copy 19 = .ok (.ifCond .eq 6, 3) := by decide +kernel
theorem dX4_copy_22 : decode cX4_copy 22 = .ok (.iload 6, 2) := by decide +kernel
theorem dX4_copy_24 : decode cX4_copy 24 = .ok (.ireturn, 1) := by decide +kernel
theorem dX4_copy_25 : decode cX4_copy 25 = .ok (.aload_n 0, 1) := by decide +kernel
theorem dX4_copy_26 : decode cX4_copy 26 = .ok (.getfield 13, 3) := by decide +kernel
theorem dX4_copy_29 : decode cX4_copy 29 = .ok (.iload_n 1, 1) := by decide +kernel
theorem dX4_copy_30 : decode cX4_copy 30 = .ok (.aaload, 1) := by decide +kernel
theorem dX4_copy_31 : decode cX4_copy 31 = .ok (.getfield 145, 3) := by decide +kernel
theorem dX4_copy_34 : decode cX4_copy 34 = .ok (.iload_n 2, 1) := by decide +kernel
theorem dX4_copy_35 : decode cX4_copy 35 = .ok (.aload_n 0, 1) := by decide +kernel
theorem dX4_copy_36 : decode cX4_copy 36 = .ok (.getfield 13, 3) := by decide +kernel
theorem dX4_copy_39 : decode cX4_copy 39 = .ok (.iload_n 3, 1) := by decide +kernel
theorem dX4_copy_40 : decode cX4_copy 40 = .ok (.aaload, 1) := by decide +kernel
theorem dX4_copy_41 : decode cX4_copy 41 = .ok (.getfield 145, 3) := by decide +kernel
theorem dX4_copy_44 : decode cX4_copy 44 = .ok (.iload 4, 2) := by decide +kernel
theorem dX4_copy_46 : decode cX4_copy 46 = .ok (.iload 5, 2) := by decide +kernel
theorem dX4_copy_48 : decode cX4_copy 48 = .ok (.invokestatic 157, 3) := by decide +kernel
theorem dX4_copy_51 : decode cX4_copy 51 = .ok (.iload 5, 2) := by decide +kernel
theorem dX4_copy_53 : decode cX4_copy 53 = .ok (.ireturn, 1) := by decide +kernel
set_option maxRecDepth 20000 in
theorem S_X4_copy_0 {g : GG} {d : Nat} {F : Int32 → St → Prop} (a1 : Int32) (a2 : Int32) (a3 : Int32) (a4 : Int32) (a5 : Int32) (σ : St) (h : (ME g d M_X4_troubleOfCopy [vR 0, vI a1, vI a2, vI a3, vI a4, vI a5] σ (qI (fun r1 σ2 => (ME g d M_X4_noted [vR 0, vI r1] σ2 (qI (fun r4 σ5 => ((r4 = 0 → (vp_in a1 4 ∧ (vp_in a3 4 ∧ (¬ a2 < 0 ∧ ¬ a4 < 0 ∧ ¬ a5 < 0 ∧ a2.toNatClampNeg + a5.toNatClampNeg ≤ 60 ∧ a4.toNatClampNeg + a5.toNatClampNeg ≤ 60 ∧ F a5 ((fun a => if a = 6 + a3.toNatClampNeg then va_cpy (σ5 (6 + a1.toNatClampNeg)) (σ5 (6 + a3.toNatClampNeg)) a2.toNatClampNeg a4.toNatClampNeg a5.toNatClampNeg else σ5 a)))))) ∧ (¬ r4 = 0 → F r4 σ5))))))))) : VM g (d + 1) M_X4_copy (qI F) 0 [(0, vR 0), (1, vI a1), (2, vI a2), (3, vI a3), (4, vI a4), (5, vI a5)] [] σ := by
  refine VE_aload_n 0 dX4_copy_0 (k := ?_)
  refine VE_aload_n 0 dX4_copy_1 (k := ?_)
  refine VE_iload_n 1 dX4_copy_2 (k := ?_)
  refine VE_iload_n 2 dX4_copy_3 (k := ?_)
  refine VE_iload_n 3 dX4_copy_4 (k := ?_)
  refine VE_iload 4 dX4_copy_5 (k := ?_)
  refine VE_iload 5 dX4_copy_7 (k := ?_)
  refine VE_cVi [vI a1, vI a2, vI a3, vI a4, vI a5] dX4_copy_9 ml_X4_154 h (fun r1 σ2 h3 => ?_) (rok_D d)
  refine VE_cVi [vI r1] dX4_copy_12 ml_X4_47 h3 (fun r4 σ5 h6 => ?_) (rok_D d)
  refine VE_istore (ls' := [(6, vI r4), (0, vR 0), (1, vI a1), (2, vI a2), (3, vI a3), (4, vI a4), (5, vI a5)]) dX4_copy_15 ?_
  refine VE_iload 0 dX4_copy_17 (k := ?_)
  refine VE_if_eq 25 dX4_copy_19 (fun c7 => ?_) (fun c7 => ?_)
  · refine VE_aload_n 1 dX4_copy_25 (k := ?_)
    refine VE_getR 1 dX4_copy_26 fl_X4_13 ?_
    refine VE_iload_n 2 dX4_copy_29 (k := ?_)
    refine VE_aald dX4_copy_30 (h6.1 c7).1 ?_
    refine VE_getR (6 + a1.toNatClampNeg) dX4_copy_31 fl_X4_145 ?_ (sh_f0 (vin_lt (h6.1 c7).1))
    refine VE_iload_n 3 dX4_copy_34 (k := ?_)
    refine VE_aload_n 1 dX4_copy_35 (k := ?_)
    refine VE_getR 1 dX4_copy_36 fl_X4_13 ?_
    refine VE_iload_n 4 dX4_copy_39 (k := ?_)
    refine VE_aald dX4_copy_40 (h6.1 c7).2.1 ?_
    refine VE_getR (6 + a3.toNatClampNeg) dX4_copy_41 fl_X4_145 ?_ (sh_f0 (vin_lt (h6.1 c7).2.1))
    refine VE_iload 5 dX4_copy_44 (k := ?_)
    refine VE_iload 6 dX4_copy_46 (k := ?_)
    refine VE_copy (i1 := 416) (i2 := 418) (i3 := 417) (i4 := 54) dX4_copy_48 ⟨by decide +kernel, rfl⟩ ⟨by decide +kernel, rfl⟩ ⟨by decide +kernel, rfl⟩ ⟨by decide +kernel, rfl⟩ (h6.1 c7).2.2.1 (h6.1 c7).2.2.2.1 (h6.1 c7).2.2.2.2.1 (by rw [sh_len (vin_lt (h6.1 c7).1)]; exact (h6.1 c7).2.2.2.2.2.1) (by rw [sh_len (vin_lt (h6.1 c7).2.1)]; exact (h6.1 c7).2.2.2.2.2.2.1) (sh_A (vin_lt (h6.1 c7).1)) (sh_A (vin_lt (h6.1 c7).2.1)) (rok1 d) rfl ?_
    refine VE_iload 6 dX4_copy_51 (k := ?_)
    exact VM_iret dX4_copy_53 (h6.1 c7).2.2.2.2.2.2.2
  · refine VE_iload 0 dX4_copy_22 (k := ?_)
    exact VM_iret dX4_copy_24 (h6.2 c7)
theorem dX4_tell_0 : decode cX4_tell 0 = .ok (.aload_n 0, 1) := by decide +kernel
theorem dX4_tell_1 : decode cX4_tell 1 = .ok (.getfield 21, 3) := by decide +kernel
theorem dX4_tell_4 : decode cX4_tell 4 = .ok (.iload_n 1, 1) := by decide +kernel
theorem dX4_tell_5 : decode cX4_tell 5 = .ok (.invokevirtual 64, 3) := by decide +kernel
theorem dX4_tell_8 : decode cX4_tell 8 = .ok (.ifCond .ne 5, 3) := by decide +kernel
theorem dX4_tell_11 : decode cX4_tell 11 = .ok (.iconst (-1), 1) := by decide +kernel
theorem dX4_tell_12 : decode cX4_tell 12 = .ok (.ireturn, 1) := by decide +kernel
theorem dX4_tell_13 : decode cX4_tell 13 = .ok (.aload_n 0, 1) := by decide +kernel
theorem dX4_tell_14 : decode cX4_tell 14 = .ok (.getfield 21, 3) := by decide +kernel
theorem dX4_tell_17 : decode cX4_tell 17 = .ok (.getfield 68, 3) := by decide +kernel
theorem dX4_tell_20 : decode cX4_tell 20 = .ok (.iload_n 1, 1) := by decide +kernel
theorem dX4_tell_21 : decode cX4_tell 21 = .ok (.iaload, 1) := by decide +kernel
theorem dX4_tell_22 : decode cX4_tell 22 = .ok (.lookupswitch 38 #[(1, 32), (2, 26)], 26) := by decide +kernel
theorem dX4_tell_48 : decode cX4_tell 48 = .ok (.aload_n 0, 1) := by decide +kernel
theorem dX4_tell_49 : decode cX4_tell 49 = .ok (.iload_n 1, 1) := by decide +kernel
theorem dX4_tell_50 : decode cX4_tell 50 = .ok (.invokevirtual 163, 3) := by decide +kernel
theorem dX4_tell_53 : decode cX4_tell 53 = .ok (.ireturn, 1) := by decide +kernel
theorem dX4_tell_54 : decode cX4_tell 54 = .ok (.aload_n 0, 1) := by decide +kernel
theorem dX4_tell_55 : decode cX4_tell 55 = .ok (.iload_n 1, 1) := by decide +kernel
theorem dX4_tell_56 : decode cX4_tell 56 = .ok (.invokevirtual 166, 3) := by decide +kernel
theorem dX4_tell_59 : decode cX4_tell 59 = .ok (.ireturn, 1) := by decide +kernel
theorem dX4_tell_60 : decode cX4_tell 60 = .ok (.aload_n 0, 1) := by decide +kernel
theorem dX4_tell_61 : decode cX4_tell 61 = .ok (.iload_n 1, 1) := by decide +kernel
theorem dX4_tell_62 : decode cX4_tell 62 = .ok (.invokevirtual 169, 3) := by decide +kernel
theorem dX4_tell_65 : decode cX4_tell 65 = .ok (.ireturn, 1) := by decide +kernel
set_option maxRecDepth 20000 in
theorem S_X4_tell_0 {g : GG} {d : Nat} {F : Int32 → St → Prop} (a1 : Int32) (σ : St) (h : (ME g d M_X0_has [vR 10, vI a1] σ (qI (fun r1 σ2 => ((¬ r1 = 0 → (vp_in a1 5 ∧ (((σ2 11 a1.toNatClampNeg) = 1 → (ME g d M_X4_lordsTelling [vR 0, vI a1] σ2 (qI (fun r7 σ8 => F r7 σ8)))) ∧ (¬ (σ2 11 a1.toNatClampNeg) = 1 → (((σ2 11 a1.toNatClampNeg) = 2 → (ME g d M_X4_spysTelling [vR 0, vI a1] σ2 (qI (fun r10 σ11 => F r10 σ11)))) ∧ (¬ (σ2 11 a1.toNatClampNeg) = 2 → (ME g d M_X4_headsTelling [vR 0, vI a1] σ2 (qI (fun r13 σ14 => F r13 σ14))))))))) ∧ (r1 = 0 → F (-1) σ2)))))) : VM g (d + 1) M_X4_tell (qI F) 0 [(0, vR 0), (1, vI a1)] [] σ := by
  refine VE_aload_n 0 dX4_tell_0 (k := ?_)
  refine VE_getR 10 dX4_tell_1 fl_X4_21 ?_
  refine VE_iload_n 1 dX4_tell_4 (k := ?_)
  refine VE_cVi [vI a1] dX4_tell_5 ml_X4_64 h (fun r1 σ2 h3 => ?_) (rok_D d)
  refine VE_if_ne 13 dX4_tell_8 (fun c4 => ?_) (fun c4 => ?_)
  · refine VE_aload_n 0 dX4_tell_13 (k := ?_)
    refine VE_getR 10 dX4_tell_14 fl_X4_21 ?_
    refine VE_getR 11 dX4_tell_17 fl_X4_68 ?_
    refine VE_iload_n 1 dX4_tell_20 (k := ?_)
    refine VE_iald dX4_tell_21 (h3.1 c4).1 ?_
    by_cases c5 : (σ2 11 a1.toNatClampNeg) = 1
    · refine VE_lookup (off := 32) 54 dX4_tell_22 (by decide) (by rw [c5]; first | done | rfl) ?_
      refine VE_aload_n 0 dX4_tell_54 (k := ?_)
      refine VE_iload_n 1 dX4_tell_55 (k := ?_)
      refine VE_cVi [vI a1] dX4_tell_56 ml_X4_166 ((h3.1 c4).2.1 c5) (fun r7 σ8 h9 => ?_) (rok_D d)
      exact VM_iret dX4_tell_59 h9
    · by_cases c6 : (σ2 11 a1.toNatClampNeg) = 2
      · refine VE_lookup (off := 26) 48 dX4_tell_22 (by decide) (by rw [c6]; first | done | rfl) ?_
        refine VE_aload_n 0 dX4_tell_48 (k := ?_)
        refine VE_iload_n 1 dX4_tell_49 (k := ?_)
        refine VE_cVi [vI a1] dX4_tell_50 ml_X4_163 (((h3.1 c4).2.2 c5).1 c6) (fun r10 σ11 h12 => ?_) (rok_D d)
        exact VM_iret dX4_tell_53 h12
      · refine VE_lookup (off := 38) 60 dX4_tell_22 (by decide) ((lv_osw c5 rfl).trans (lv_osw c6 rfl)) ?_
        refine VE_aload_n 0 dX4_tell_60 (k := ?_)
        refine VE_iload_n 1 dX4_tell_61 (k := ?_)
        refine VE_cVi [vI a1] dX4_tell_62 ml_X4_169 (((h3.1 c4).2.2 c5).2 c6) (fun r13 σ14 h15 => ?_) (rok_D d)
        exact VM_iret dX4_tell_65 h15
  · refine VE_iconst (-1) dX4_tell_11 (k := ?_)
    exact VM_iret dX4_tell_12 (h3.2 c4)
theorem dX4_greet_0 : decode cX4_greet 0 = .ok (.aload_n 0, 1) := by decide +kernel
theorem dX4_greet_1 : decode cX4_greet 1 = .ok (.getfield 21, 3) := by decide +kernel
theorem dX4_greet_4 : decode cX4_greet 4 = .ok (.iload_n 1, 1) := by decide +kernel
theorem dX4_greet_5 : decode cX4_greet 5 = .ok (.invokevirtual 64, 3) := by decide +kernel
theorem dX4_greet_8 : decode cX4_greet 8 = .ok (.ifCond .ne 5, 3) := by decide +kernel
theorem dX4_greet_11 : decode cX4_greet 11 = .ok (.iconst (-1), 1) := by decide +kernel
theorem dX4_greet_12 : decode cX4_greet 12 = .ok (.ireturn, 1) := by decide +kernel
theorem dX4_greet_13 : decode cX4_greet 13 = .ok (.aload_n 0, 1) := by decide +kernel
theorem dX4_greet_14 : decode cX4_greet 14 = .ok (.getfield 21, 3) := by decide +kernel
theorem dX4_greet_17 : decode cX4_greet 17 = .ok (.getfield 68, 3) := by decide +kernel
theorem dX4_greet_20 : decode cX4_greet 20 = .ok (.iload_n 1, 1) := by decide +kernel
theorem dX4_greet_21 : decode cX4_greet 21 = .ok (.iaload, 1) := by decide +kernel
theorem dX4_greet_22 : decode cX4_greet 22 = .ok (.iconst 2, 1) := by decide +kernel
theorem dX4_greet_23 : decode cX4_greet 23 = .ok (.if_icmp .ne 11, 3) := by decide +kernel
theorem dX4_greet_26 : decode cX4_greet 26 = .ok (.aload_n 0, 1) := by decide +kernel
theorem dX4_greet_27 : decode cX4_greet 27 = .ok (.iconst 5, 1) := by decide +kernel
theorem dX4_greet_28 : decode cX4_greet 28 = .ok (.invokevirtual 172, 3) := by decide +kernel
theorem dX4_greet_31 : decode cX4_greet 31 = .ok (.bipush 90, 2) := by decide +kernel
theorem dX4_greet_33 : decode cX4_greet 33 = .ok (.ireturn, 1) := by decide +kernel
theorem dX4_greet_34 : decode cX4_greet 34 = .ok (.aload_n 0, 1) := by decide +kernel
theorem dX4_greet_35 : decode cX4_greet 35 = .ok (.iconst 4, 1) := by decide +kernel
theorem dX4_greet_36 : decode cX4_greet 36 = .ok (.invokevirtual 172, 3) := by decide +kernel
theorem dX4_greet_39 : decode cX4_greet 39 = .ok (.iload_n 1, 1) := by decide +kernel
theorem dX4_greet_40 : decode cX4_greet 40 = .ok (.ireturn, 1) := by decide +kernel
set_option maxRecDepth 20000 in
theorem S_X4_greet_0 {g : GG} {d : Nat} {F : Int32 → St → Prop} (a1 : Int32) (σ : St) (h : (ME g d M_X0_has [vR 10, vI a1] σ (qI (fun r1 σ2 => ((¬ r1 = 0 → (vp_in a1 5 ∧ ((¬ (σ2 11 a1.toNatClampNeg) = 2 → (ME g d M_X4_leaveTrace [vR 0, vI 4] σ2 (qV (fun σ7 => F a1 σ7)))) ∧ ((σ2 11 a1.toNatClampNeg) = 2 → (ME g d M_X4_leaveTrace [vR 0, vI 5] σ2 (qV (fun σ10 => F 90 σ10))))))) ∧ (r1 = 0 → F (-1) σ2)))))) : VM g (d + 1) M_X4_greet (qI F) 0 [(0, vR 0), (1, vI a1)] [] σ := by
  refine VE_aload_n 0 dX4_greet_0 (k := ?_)
  refine VE_getR 10 dX4_greet_1 fl_X4_21 ?_
  refine VE_iload_n 1 dX4_greet_4 (k := ?_)
  refine VE_cVi [vI a1] dX4_greet_5 ml_X4_64 h (fun r1 σ2 h3 => ?_) (rok_D d)
  refine VE_if_ne 13 dX4_greet_8 (fun c4 => ?_) (fun c4 => ?_)
  · refine VE_aload_n 0 dX4_greet_13 (k := ?_)
    refine VE_getR 10 dX4_greet_14 fl_X4_21 ?_
    refine VE_getR 11 dX4_greet_17 fl_X4_68 ?_
    refine VE_iload_n 1 dX4_greet_20 (k := ?_)
    refine VE_iald dX4_greet_21 (h3.1 c4).1 ?_
    refine VE_iconst 2 dX4_greet_22 (k := ?_)
    refine VE_icmp_ne 34 dX4_greet_23 (fun c5 => ?_) (fun c5 => ?_)
    · refine VE_aload_n 0 dX4_greet_34 (k := ?_)
      refine VE_iconst 4 dX4_greet_35 (k := ?_)
      refine VE_cVv [vI 4] dX4_greet_36 ml_X4_172 ((h3.1 c4).2.1 c5) (fun σ7 h8 => ?_) (rok_D d)
      refine VE_iload_n 1 dX4_greet_39 (k := ?_)
      exact VM_iret dX4_greet_40 h8
    · refine VE_aload_n 0 dX4_greet_26 (k := ?_)
      refine VE_iconst 5 dX4_greet_27 (k := ?_)
      refine VE_cVv [vI 5] dX4_greet_28 ml_X4_172 ((h3.1 c4).2.2 c5) (fun σ10 h11 => ?_) (rok_D d)
      refine VE_bipush 90 dX4_greet_31 (k := ?_)
      exact VM_iret dX4_greet_33 h11
  · refine VE_iconst (-1) dX4_greet_11 (k := ?_)
    exact VM_iret dX4_greet_12 (h3.2 c4)
theorem dX4_as_0 : decode cX4_as 0 = .ok (.aload_n 0, 1) := by decide +kernel
theorem dX4_as_1 : decode cX4_as 1 = .ok (.aload_n 0, 1) := by decide +kernel
theorem dX4_as_2 : decode cX4_as 2 = .ok (.iload_n 1, 1) := by decide +kernel
theorem dX4_as_3 : decode cX4_as 3 = .ok (.iload_n 2, 1) := by decide +kernel
theorem dX4_as_4 : decode cX4_as 4 = .ok (.invokevirtual 176, 3) := by decide +kernel
theorem dX4_as_7 : decode cX4_as 7 = .ok (.invokevirtual 47, 3) := by decide +kernel
theorem dX4_as_10 : decode cX4_as 10 = .ok (.ireturn, 1) := by decide +kernel
set_option maxRecDepth 20000 in
theorem S_X4_as_0 {g : GG} {d : Nat} {F : Int32 → St → Prop} (a1 : Int32) (a2 : Int32) (σ : St) (h : (ME g d M_X4_answerOfKind [vR 0, vI a1, vI a2] σ (qI (fun r1 σ2 => (ME g d M_X4_noted [vR 0, vI r1] σ2 (qI (fun r4 σ5 => F r4 σ5))))))) : VM g (d + 1) M_X4_as (qI F) 0 [(0, vR 0), (1, vI a1), (2, vI a2)] [] σ := by
  refine VE_aload_n 0 dX4_as_0 (k := ?_)
  refine VE_aload_n 0 dX4_as_1 (k := ?_)
  refine VE_iload_n 1 dX4_as_2 (k := ?_)
  refine VE_iload_n 2 dX4_as_3 (k := ?_)
  refine VE_cVi [vI a1, vI a2] dX4_as_4 ml_X4_176 h (fun r1 σ2 h3 => ?_) (rok_D d)
  refine VE_cVi [vI r1] dX4_as_7 ml_X4_47 h3 (fun r4 σ5 h6 => ?_) (rok_D d)
  exact VM_iret dX4_as_10 h6
theorem dX4_trace_0 : decode cX4_trace 0 = .ok (.aload_n 0, 1) := by decide +kernel
theorem dX4_trace_1 : decode cX4_trace 1 = .ok (.getfield 179, 3) := by decide +kernel
theorem dX4_trace_4 : decode cX4_trace 4 = .ok (.ireturn, 1) := by decide +kernel
set_option maxRecDepth 20000 in
theorem S_X4_trace_0 {g : GG} {d : Nat} {F : Int32 → St → Prop}  (σ : St) (h : F (σ 0 6) σ) : VM g d M_X4_trace (qI F) 0 [(0, vR 0)] [] σ := by
  refine VE_aload_n 0 dX4_trace_0 (k := ?_)
  refine VE_getI dX4_trace_1 fl_X4_179 ?_
  exact VM_iret dX4_trace_4 h
theorem dX4_fault_0 : decode cX4_fault 0 = .ok (.aload_n 0, 1) := by decide +kernel
theorem dX4_fault_1 : decode cX4_fault 1 = .ok (.getfield 182, 3) := by decide +kernel
theorem dX4_fault_4 : decode cX4_fault 4 = .ok (.ireturn, 1) := by decide +kernel
set_option maxRecDepth 20000 in
theorem S_X4_fault_0 {g : GG} {d : Nat} {F : Int32 → St → Prop}  (σ : St) (h : F (σ 0 7) σ) : VM g d M_X4_fault (qI F) 0 [(0, vR 0)] [] σ := by
  refine VE_aload_n 0 dX4_fault_0 (k := ?_)
  refine VE_getI dX4_fault_1 fl_X4_182 ?_
  exact VM_iret dX4_fault_4 h
theorem dX4_many_0 : decode cX4_many 0 = .ok (.iload_n 1, 1) := by decide +kernel
theorem dX4_many_1 : decode cX4_many 1 = .ok (.lookupswitch 43 #[(0, 27), (1, 35)], 27) := by decide +kernel
theorem dX4_many_28 : decode cX4_many 28 = .ok (.aload_n 0, 1) := by decide +kernel
theorem dX4_many_29 : decode cX4_many 29 = .ok (.getfield 21, 3) := by decide +kernel
theorem dX4_many_32 : decode cX4_many 32 = .ok (.getfield 63, 3) := by decide +kernel
theorem dX4_many_35 : decode cX4_many 35 = .ok (.ireturn, 1) := by decide +kernel
theorem dX4_many_36 : decode cX4_many 36 = .ok (.aload_n 0, 1) := by decide +kernel
theorem dX4_many_37 : decode cX4_many 37 = .ok (.getfield 35, 3) := by decide +kernel
theorem dX4_many_40 : decode cX4_many 40 = .ok (.getfield 59, 3) := by decide +kernel
theorem dX4_many_43 : decode cX4_many 43 = .ok (.ireturn, 1) := by decide +kernel
theorem dX4_many_44 : decode cX4_many 44 = .ok (.bipush (-2), 2) := by decide +kernel
theorem dX4_many_46 : decode cX4_many 46 = .ok (.ireturn, 1) := by decide +kernel
set_option maxRecDepth 20000 in
theorem S_X4_many_0 {g : GG} {d : Nat} {F : Int32 → St → Prop} (a1 : Int32) (σ : St) (h : ((a1 = 0 → F (σ 10 3) σ) ∧ (¬ a1 = 0 → ((a1 = 1 → F (σ 18 3) σ) ∧ (¬ a1 = 1 → F (-2) σ))))) : VM g d M_X4_many (qI F) 0 [(0, vR 0), (1, vI a1)] [] σ := by
  refine VE_iload_n 1 dX4_many_0 (k := ?_)
  by_cases c1 : a1 = 0
  · refine VE_lookup (off := 27) 28 dX4_many_1 (by decide) (by rw [c1]; first | done | rfl) ?_
    refine VE_aload_n 0 dX4_many_28 (k := ?_)
    refine VE_getR 10 dX4_many_29 fl_X4_21 ?_
    refine VE_getI dX4_many_32 fl_X4_63 ?_
    exact VM_iret dX4_many_35 (h.1 c1)
  · by_cases c2 : a1 = 1
    · refine VE_lookup (off := 35) 36 dX4_many_1 (by decide) (by rw [c2]; first | done | rfl) ?_
      refine VE_aload_n 0 dX4_many_36 (k := ?_)
      refine VE_getR 18 dX4_many_37 fl_X4_35 ?_
      refine VE_getI dX4_many_40 fl_X4_59 ?_
      exact VM_iret dX4_many_43 ((h.2 c1).1 c2)
    · refine VE_lookup (off := 43) 44 dX4_many_1 (by decide) ((lv_osw c1 rfl).trans (lv_osw c2 rfl)) ?_
      refine VE_bipush (-2) dX4_many_44 (k := ?_)
      exact VM_iret dX4_many_46 ((h.2 c1).2 c2)
theorem dX4_noted_0 : decode cX4_noted 0 = .ok (.aload_n 0, 1) := by decide +kernel
theorem dX4_noted_1 : decode cX4_noted 1 = .ok (.iload_n 1, 1) := by decide +kernel
theorem dX4_noted_2 : decode cX4_noted 2 = .ok (.bipush (-10), 2) := by decide +kernel
theorem dX4_noted_4 : decode cX4_noted 4 = .ok (.if_icmp .ge 10, 3) := by decide +kernel
theorem dX4_noted_7 : decode cX4_noted 7 = .ok (.bipush (-10), 2) := by decide +kernel
theorem dX4_noted_9 : decode cX4_noted 9 = .ok (.iload_n 1, 1) := by decide +kernel
theorem dX4_noted_10 : decode cX4_noted 10 = .ok (.isub, 1) := by decide +kernel
theorem dX4_noted_11 : decode cX4_noted 11 = .ok (.goto 4, 3) := by decide +kernel
theorem dX4_noted_14 : decode cX4_noted 14 = .ok (.iconst 0, 1) := by decide +kernel
theorem dX4_noted_15 : decode cX4_noted 15 = .ok (.putfield 182, 3) := by decide +kernel
theorem dX4_noted_18 : decode cX4_noted 18 = .ok (.iload_n 1, 1) := by decide +kernel
theorem dX4_noted_19 : decode cX4_noted 19 = .ok (.ireturn, 1) := by decide +kernel
set_option maxRecDepth 20000 in
theorem S_X4_noted_0 {g : GG} {d : Nat} {F : Int32 → St → Prop} (a1 : Int32) (σ : St) (h : (((-10) ≤ a1 → F a1 (sU σ 0 7 0)) ∧ (¬ (-10) ≤ a1 → F a1 (sU σ 0 7 ((-10) - a1))))) : VM g d M_X4_noted (qI F) 0 [(0, vR 0), (1, vI a1)] [] σ := by
  refine VE_aload_n 0 dX4_noted_0 (k := ?_)
  refine VE_iload_n 1 dX4_noted_1 (k := ?_)
  refine VE_bipush (-10) dX4_noted_2 (k := ?_)
  refine VE_icmp_ge 14 dX4_noted_4 (fun c1 => ?_) (fun c1 => ?_)
  · refine VE_iconst 0 dX4_noted_14 (k := ?_)
    refine VE_put dX4_noted_15 fl_X4_182 ?_
    refine VE_iload_n 1 dX4_noted_18 (k := ?_)
    exact VM_iret dX4_noted_19 (h.1 c1)
  · refine VE_bipush (-10) dX4_noted_7 (k := ?_)
    refine VE_iload_n 1 dX4_noted_9 (k := ?_)
    refine VE_isub dX4_noted_10 ?_
    refine VE_goto 15 dX4_noted_11 ?_
    refine VE_put dX4_noted_15 fl_X4_182 ?_
    refine VE_iload_n 1 dX4_noted_18 (k := ?_)
    exact VM_iret dX4_noted_19 (h.2 c1)
theorem dX4_troubleOfCells_0 : decode cX4_troubleOfCells 0 = .ok (.iload_n 1, 1) := by decide +kernel
theorem dX4_troubleOfCells_1 : decode cX4_troubleOfCells 1 = .ok (.invokestatic 132, 3) := by decide +kernel
theorem dX4_troubleOfCells_4 : decode cX4_troubleOfCells 4 = .ok (.ifCond .ne 5, 3) := by decide +kernel
theorem dX4_troubleOfCells_7 : decode cX4_troubleOfCells 7 = .ok (.iconst (-1), 1) := by decide +kernel
theorem dX4_troubleOfCells_8 : decode cX4_troubleOfCells 8 = .ok (.ireturn, 1) := by decide +kernel
theorem dX4_troubleOfCells_9 : decode cX4_troubleOfCells 9 = .ok (.iload_n 2, 1) := by decide +kernel
theorem dX4_troubleOfCells_10 : decode cX4_troubleOfCells 10 = .ok (.invokestatic 185, 3) := by decide +kernel
theorem dX4_troubleOfCells_13 : decode cX4_troubleOfCells 13 = .ok (.ifCond .ne 6, 3) := by decide +kernel
theorem dX4_troubleOfCells_16 : decode cX4_troubleOfCells 16 = .ok (.bipush (-2), 2) := by decide +kernel
theorem dX4_troubleOfCells_18 : decode cX4_troubleOfCells 18 = .ok (.ireturn, 1) := by decide +kernel
theorem dX4_troubleOfCells_19 : decode cX4_troubleOfCells 19 = .ok (.aload_n 0, 1) := by decide +kernel
theorem dX4_troubleOfCells_20 : decode cX4_troubleOfCells 20 = .ok (.getfield 13, 3) := by decide +kernel
theorem dX4_troubleOfCells_23 : decode cX4_troubleOfCells 23 = .ok (.iload_n 1, 1) := by decide +kernel
theorem dX4_troubleOfCells_24 : decode cX4_troubleOfCells 24 = .ok (.aaload, 1) := by decide +kernel
theorem dX4_troubleOfCells_25 : decode cX4_troubleOfCells 25 = .ok (.iload_n 2, 1) := by decide +kernel
theorem dX4_troubleOfCells_26 : decode cX4_troubleOfCells 26 = .ok (.iload_n 3, 1) := by decide +kernel
theorem dX4_troubleOfCells_27 : decode cX4_troubleOfCells 27 = .ok (.iload 4, 2) := by decide +kernel
theorem dX4_troubleOfCells_29 : decode cX4_troubleOfCells 29 = .ok (.invokevirtual 188, 3) := by decide +kernel
theorem dX4_troubleOfCells_32 : decode cX4_troubleOfCells 32 = .ok (.ireturn, 1) := by decide +kernel
set_option maxRecDepth 20000 in
theorem S_X4_troubleOfCells_0 {g : GG} {d : Nat} {F : Int32 → St → Prop} (a1 : Int32) (a2 : Int32) (a3 : Int32) (a4 : Int32) (σ : St) (h : (ME g d M_X4_isSheet [vI a1] σ (qI (fun r1 σ2 => ((¬ r1 = 0 → (ME g d M_X4_isLane [vI a2] σ2 (qI (fun r5 σ6 => ((¬ r5 = 0 → (vp_in a1 4 ∧ (ME g d M_X3_faultOfCells [vR (2 + a1.toNatClampNeg), vI a2, vI a3, vI a4] σ6 (qI (fun r9 σ10 => F r9 σ10))))) ∧ (r5 = 0 → F (-2) σ6)))))) ∧ (r1 = 0 → F (-1) σ2)))))) : VM g (d + 1) M_X4_troubleOfCells (qI F) 0 [(0, vR 0), (1, vI a1), (2, vI a2), (3, vI a3), (4, vI a4)] [] σ := by
  refine VE_iload_n 1 dX4_troubleOfCells_0 (k := ?_)
  refine VE_cSi [vI a1] dX4_troubleOfCells_1 ml_X4_132 h (fun r1 σ2 h3 => ?_) (rok_D d)
  refine VE_if_ne 9 dX4_troubleOfCells_4 (fun c4 => ?_) (fun c4 => ?_)
  · refine VE_iload_n 2 dX4_troubleOfCells_9 (k := ?_)
    refine VE_cSi [vI a2] dX4_troubleOfCells_10 ml_X4_185 (h3.1 c4) (fun r5 σ6 h7 => ?_) (rok_D d)
    refine VE_if_ne 19 dX4_troubleOfCells_13 (fun c8 => ?_) (fun c8 => ?_)
    · refine VE_aload_n 0 dX4_troubleOfCells_19 (k := ?_)
      refine VE_getR 1 dX4_troubleOfCells_20 fl_X4_13 ?_
      refine VE_iload_n 1 dX4_troubleOfCells_23 (k := ?_)
      refine VE_aald dX4_troubleOfCells_24 (h7.1 c8).1 ?_
      refine VE_iload_n 2 dX4_troubleOfCells_25 (k := ?_)
      refine VE_iload_n 3 dX4_troubleOfCells_26 (k := ?_)
      refine VE_iload 4 dX4_troubleOfCells_27 (k := ?_)
      refine VE_cVi [vI a2, vI a3, vI a4] dX4_troubleOfCells_29 ml_X4_188 (h7.1 c8).2 (fun r9 σ10 h11 => ?_) (rok_D d) (hj := sh_ocl (vin_lt (h7.1 c8).1))
      exact VM_iret dX4_troubleOfCells_32 h11
    · refine VE_bipush (-2) dX4_troubleOfCells_16 (k := ?_)
      exact VM_iret dX4_troubleOfCells_18 (h7.2 c8)
  · refine VE_iconst (-1) dX4_troubleOfCells_7 (k := ?_)
    exact VM_iret dX4_troubleOfCells_8 (h3.2 c4)
theorem dX4_troubleOfVisits_0 : decode cX4_troubleOfVisits 0 = .ok (.iload_n 1, 1) := by decide +kernel
theorem dX4_troubleOfVisits_1 : decode cX4_troubleOfVisits 1 = .ok (.invokestatic 132, 3) := by decide +kernel
theorem dX4_troubleOfVisits_4 : decode cX4_troubleOfVisits 4 = .ok (.ifCond .eq 23, 3) := by decide +kernel
theorem dX4_troubleOfVisits_7 : decode cX4_troubleOfVisits 7 = .ok (.iload 4, 2) := by decide +kernel
theorem dX4_troubleOfVisits_9 : decode cX4_troubleOfVisits 9 = .ok (.ifCond .lt 15, 3) := by decide +kernel
theorem dX4_troubleOfVisits_12 : decode cX4_troubleOfVisits 12 = .ok (.iload 4, 2) := by decide +kernel
theorem dX4_troubleOfVisits_14 : decode cX4_troubleOfVisits 14 = .ok (.bipush 20, 2) := by decide +kernel
theorem dX4_troubleOfVisits_16 : decode cX4_troubleOfVisits 16 = .ok (.if_icmp .gt 8, 3) := by decide +kernel
theorem dX4_troubleOfVisits_19 : decode cX4_troubleOfVisits 19 = .ok (.iload 5, 2) := by decide +kernel
theorem dX4_troubleOfVisits_21 : decode cX4_troubleOfVisits 21 = .ok (.ifCond .ne 6, 3) := by decide +kernel
theorem dX4_troubleOfVisits_24 : decode cX4_troubleOfVisits 24 = .ok (.bipush (-2), 2) := by decide +kernel
theorem dX4_troubleOfVisits_26 : decode cX4_troubleOfVisits 26 = .ok (.ireturn, 1) := by decide +kernel
theorem dX4_troubleOfVisits_27 : decode cX4_troubleOfVisits 27 = .ok (.aload_n 0, 1) := by decide +kernel
theorem dX4_troubleOfVisits_28 : decode cX4_troubleOfVisits 28 = .ok (.iload_n 1, 1) := by decide +kernel
theorem dX4_troubleOfVisits_29 : decode cX4_troubleOfVisits 29 = .ok (.iload_n 2, 1) := by decide +kernel
theorem dX4_troubleOfVisits_30 : decode cX4_troubleOfVisits 30 = .ok (.iload_n 3, 1) := by decide +kernel
theorem dX4_troubleOfVisits_31 : decode cX4_troubleOfVisits 31 = .ok (.iload 4, 2) := by decide +kernel
theorem dX4_troubleOfVisits_33 : decode cX4_troubleOfVisits 33 = .ok (.invokevirtual 43, 3) := by decide +kernel
theorem dX4_troubleOfVisits_36 : decode cX4_troubleOfVisits 36 = .ok (.istore 6, 2) := by decide +kernel
theorem dX4_troubleOfVisits_38 : decode cX4_troubleOfVisits 38 = .ok (.iload 6, 2) := by decide +kernel
theorem dX4_troubleOfVisits_40 : decode cX4_troubleOfVisits 40 = .ok (.ifCond .eq 6, 3) := by decide +kernel
theorem dX4_troubleOfVisits_43 : decode cX4_troubleOfVisits 43 = .ok (.iload 6, 2) := by decide +kernel
theorem dX4_troubleOfVisits_45 : decode cX4_troubleOfVisits 45 = .ok (.ireturn, 1) := by decide +kernel
theorem dX4_troubleOfVisits_46 : decode cX4_troubleOfVisits 46 = .ok (.aload_n 0, 1) := by decide +kernel
theorem dX4_troubleOfVisits_47 : decode cX4_troubleOfVisits 47 = .ok (.getfield 21, 3) := by decide +kernel
theorem dX4_troubleOfVisits_50 : decode cX4_troubleOfVisits 50 = .ok (.getfield 63, 3) := by decide +kernel
theorem dX4_troubleOfVisits_53 : decode cX4_troubleOfVisits 53 = .ok (.ifCond .ne 6, 3) := by decide +kernel
theorem dX4_troubleOfVisits_56 : decode cX4_troubleOfVisits 56 = .ok (.bipush (-3), 2) := by decide +kernel
theorem dX4_troubleOfVisits_58 : decode cX4_troubleOfVisits 58 = .ok (.ireturn, 1) := by decide +kernel
theorem dX4_troubleOfVisits_59 : decode cX4_troubleOfVisits 59 = .ok (.aload_n 0, 1) := by decide +kernel
theorem dX4_troubleOfVisits_60 : decode cX4_troubleOfVisits 60 = .ok (.aload_n 0, 1) := by decide +kernel
theorem dX4_troubleOfVisits_61 : decode cX4_troubleOfVisits 61 = .ok (.getfield 13, 3) := by decide +kernel
theorem dX4_troubleOfVisits_64 : decode cX4_troubleOfVisits 64 = .ok (.iload_n 1, 1) := by decide +kernel
theorem dX4_troubleOfVisits_65 : decode cX4_troubleOfVisits 65 = .ok (.aaload, 1) := by decide +kernel
theorem dX4_troubleOfVisits_66 : decode cX4_troubleOfVisits 66 = .ok (.iload_n 3, 1) := by decide +kernel
theorem dX4_troubleOfVisits_67 : decode cX4_troubleOfVisits 67 = .ok (.iload 4, 2) := by decide +kernel
theorem dX4_troubleOfVisits_69 : decode cX4_troubleOfVisits 69 = .ok (.invokevirtual 191, 3) := by decide +kernel
theorem dX4_troubleOfVisits_72 : decode cX4_troubleOfVisits 72 = .ok (.ifCond .eq 7, 3) := by decide +kernel
theorem dX4_troubleOfVisits_75 : decode cX4_troubleOfVisits 75 = .ok (.iconst 0, 1) := by decide +kernel
theorem dX4_troubleOfVisits_76 : decode cX4_troubleOfVisits 76 = .ok (.goto 4, 3) := by decide +kernel
theorem dX4_troubleOfVisits_79 : decode cX4_troubleOfVisits 79 = .ok (.iconst (-1), 1) := by decide +kernel
theorem dX4_troubleOfVisits_80 : decode cX4_troubleOfVisits 80 = .ok (.ireturn, 1) := by decide +kernel
set_option maxRecDepth 20000 in
theorem S_X4_troubleOfVisits_0 {g : GG} {d : Nat} {F : Int32 → St → Prop} (a1 : Int32) (a2 : Int32) (a3 : Int32) (a4 : Int32) (a5 : Int32) (σ : St) (h : (ME g d M_X4_isSheet [vI a1] σ (qI (fun r1 σ2 => ((r1 = 0 → (ME g d M_X4_troubleOfCells [vR 0, vI a1, vI a2, vI a3, vI a4] σ2 (qI (fun r5 σ6 => ((r5 = 0 → ((¬ (σ6 10 3) = 0 → (vp_in a1 4 ∧ (ME g d M_X4_takeRow [vR 0, vR (2 + a1.toNatClampNeg), vI a3, vI a4] σ6 (qI (fun r10 σ11 => ((r10 = 0 → F (-1) σ11) ∧ (¬ r10 = 0 → F 0 σ11))))))) ∧ ((σ6 10 3) = 0 → F (-3) σ6))) ∧ (¬ r5 = 0 → F r5 σ6)))))) ∧ (¬ r1 = 0 → ((a4 < 0 → F (-2) σ2) ∧ (¬ a4 < 0 → ((20 < a4 → F (-2) σ2) ∧ (¬ 20 < a4 → ((¬ a5 = 0 → (ME g d M_X4_troubleOfCells [vR 0, vI a1, vI a2, vI a3, vI a4] σ2 (qI (fun r17 σ18 => ((r17 = 0 → ((¬ (σ18 10 3) = 0 → (vp_in a1 4 ∧ (ME g d M_X4_takeRow [vR 0, vR (2 + a1.toNatClampNeg), vI a3, vI a4] σ18 (qI (fun r22 σ23 => ((r22 = 0 → F (-1) σ23) ∧ (¬ r22 = 0 → F 0 σ23))))))) ∧ ((σ18 10 3) = 0 → F (-3) σ18))) ∧ (¬ r17 = 0 → F r17 σ18)))))) ∧ (a5 = 0 → F (-2) σ2)))))))))))) : VM g (d + 1) M_X4_troubleOfVisits (qI F) 0 [(0, vR 0), (1, vI a1), (2, vI a2), (3, vI a3), (4, vI a4), (5, vI a5)] [] σ := by
  refine VE_iload_n 1 dX4_troubleOfVisits_0 (k := ?_)
  refine VE_cSi [vI a1] dX4_troubleOfVisits_1 ml_X4_132 h (fun r1 σ2 h3 => ?_) (rok_D d)
  refine VE_if_eq 27 dX4_troubleOfVisits_4 (fun c4 => ?_) (fun c4 => ?_)
  · refine VE_aload_n 0 dX4_troubleOfVisits_27 (k := ?_)
    refine VE_iload_n 1 dX4_troubleOfVisits_28 (k := ?_)
    refine VE_iload_n 2 dX4_troubleOfVisits_29 (k := ?_)
    refine VE_iload_n 3 dX4_troubleOfVisits_30 (k := ?_)
    refine VE_iload 4 dX4_troubleOfVisits_31 (k := ?_)
    refine VE_cVi [vI a1, vI a2, vI a3, vI a4] dX4_troubleOfVisits_33 ml_X4_43 (h3.1 c4) (fun r5 σ6 h7 => ?_) (rok_D d)
    refine VE_istore (ls' := [(6, vI r5), (0, vR 0), (1, vI a1), (2, vI a2), (3, vI a3), (4, vI a4), (5, vI a5)]) dX4_troubleOfVisits_36 ?_
    refine VE_iload 0 dX4_troubleOfVisits_38 (k := ?_)
    refine VE_if_eq 46 dX4_troubleOfVisits_40 (fun c8 => ?_) (fun c8 => ?_)
    · refine VE_aload_n 1 dX4_troubleOfVisits_46 (k := ?_)
      refine VE_getR 10 dX4_troubleOfVisits_47 fl_X4_21 ?_
      refine VE_getI dX4_troubleOfVisits_50 fl_X4_63 ?_
      refine VE_if_ne 59 dX4_troubleOfVisits_53 (fun c9 => ?_) (fun c9 => ?_)
      · refine VE_aload_n 1 dX4_troubleOfVisits_59 (k := ?_)
        refine VE_aload_n 1 dX4_troubleOfVisits_60 (k := ?_)
        refine VE_getR 1 dX4_troubleOfVisits_61 fl_X4_13 ?_
        refine VE_iload_n 2 dX4_troubleOfVisits_64 (k := ?_)
        refine VE_aald dX4_troubleOfVisits_65 ((h7.1 c8).1 c9).1 ?_
        refine VE_iload_n 4 dX4_troubleOfVisits_66 (k := ?_)
        refine VE_iload 5 dX4_troubleOfVisits_67 (k := ?_)
        refine VE_cVi [vR (2 + a1.toNatClampNeg), vI a3, vI a4] dX4_troubleOfVisits_69 ml_X4_191 ((h7.1 c8).1 c9).2 (fun r10 σ11 h12 => ?_) (rok_D d)
        refine VE_if_eq 79 dX4_troubleOfVisits_72 (fun c13 => ?_) (fun c13 => ?_)
        · refine VE_iconst (-1) dX4_troubleOfVisits_79 (k := ?_)
          exact VM_iret dX4_troubleOfVisits_80 (h12.1 c13)
        · refine VE_iconst 0 dX4_troubleOfVisits_75 (k := ?_)
          refine VE_goto 80 dX4_troubleOfVisits_76 ?_
          exact VM_iret dX4_troubleOfVisits_80 (h12.2 c13)
      · refine VE_bipush (-3) dX4_troubleOfVisits_56 (k := ?_)
        exact VM_iret dX4_troubleOfVisits_58 ((h7.1 c8).2 c9)
    · refine VE_iload 0 dX4_troubleOfVisits_43 (k := ?_)
      exact VM_iret dX4_troubleOfVisits_45 (h7.2 c8)
  · refine VE_iload 4 dX4_troubleOfVisits_7 (k := ?_)
    refine VE_if_lt 24 dX4_troubleOfVisits_9 (fun c14 => ?_) (fun c14 => ?_)
    · refine VE_bipush (-2) dX4_troubleOfVisits_24 (k := ?_)
      exact VM_iret dX4_troubleOfVisits_26 ((h3.2 c4).1 c14)
    · refine VE_iload 4 dX4_troubleOfVisits_12 (k := ?_)
      refine VE_bipush 20 dX4_troubleOfVisits_14 (k := ?_)
      refine VE_icmp_gt 24 dX4_troubleOfVisits_16 (fun c15 => ?_) (fun c15 => ?_)
      · refine VE_bipush (-2) dX4_troubleOfVisits_24 (k := ?_)
        exact VM_iret dX4_troubleOfVisits_26 (((h3.2 c4).2 c14).1 c15)
      · refine VE_iload 5 dX4_troubleOfVisits_19 (k := ?_)
        refine VE_if_ne 27 dX4_troubleOfVisits_21 (fun c16 => ?_) (fun c16 => ?_)
        · refine VE_aload_n 0 dX4_troubleOfVisits_27 (k := ?_)
          refine VE_iload_n 1 dX4_troubleOfVisits_28 (k := ?_)
          refine VE_iload_n 2 dX4_troubleOfVisits_29 (k := ?_)
          refine VE_iload_n 3 dX4_troubleOfVisits_30 (k := ?_)
          refine VE_iload 4 dX4_troubleOfVisits_31 (k := ?_)
          refine VE_cVi [vI a1, vI a2, vI a3, vI a4] dX4_troubleOfVisits_33 ml_X4_43 ((((h3.2 c4).2 c14).2 c15).1 c16) (fun r17 σ18 h19 => ?_) (rok_D d)
          refine VE_istore (ls' := [(6, vI r17), (0, vR 0), (1, vI a1), (2, vI a2), (3, vI a3), (4, vI a4), (5, vI a5)]) dX4_troubleOfVisits_36 ?_
          refine VE_iload 0 dX4_troubleOfVisits_38 (k := ?_)
          refine VE_if_eq 46 dX4_troubleOfVisits_40 (fun c20 => ?_) (fun c20 => ?_)
          · refine VE_aload_n 1 dX4_troubleOfVisits_46 (k := ?_)
            refine VE_getR 10 dX4_troubleOfVisits_47 fl_X4_21 ?_
            refine VE_getI dX4_troubleOfVisits_50 fl_X4_63 ?_
            refine VE_if_ne 59 dX4_troubleOfVisits_53 (fun c21 => ?_) (fun c21 => ?_)
            · refine VE_aload_n 1 dX4_troubleOfVisits_59 (k := ?_)
              refine VE_aload_n 1 dX4_troubleOfVisits_60 (k := ?_)
              refine VE_getR 1 dX4_troubleOfVisits_61 fl_X4_13 ?_
              refine VE_iload_n 2 dX4_troubleOfVisits_64 (k := ?_)
              refine VE_aald dX4_troubleOfVisits_65 ((h19.1 c20).1 c21).1 ?_
              refine VE_iload_n 4 dX4_troubleOfVisits_66 (k := ?_)
              refine VE_iload 5 dX4_troubleOfVisits_67 (k := ?_)
              refine VE_cVi [vR (2 + a1.toNatClampNeg), vI a3, vI a4] dX4_troubleOfVisits_69 ml_X4_191 ((h19.1 c20).1 c21).2 (fun r22 σ23 h24 => ?_) (rok_D d)
              refine VE_if_eq 79 dX4_troubleOfVisits_72 (fun c25 => ?_) (fun c25 => ?_)
              · refine VE_iconst (-1) dX4_troubleOfVisits_79 (k := ?_)
                exact VM_iret dX4_troubleOfVisits_80 (h24.1 c25)
              · refine VE_iconst 0 dX4_troubleOfVisits_75 (k := ?_)
                refine VE_goto 80 dX4_troubleOfVisits_76 ?_
                exact VM_iret dX4_troubleOfVisits_80 (h24.2 c25)
            · refine VE_bipush (-3) dX4_troubleOfVisits_56 (k := ?_)
              exact VM_iret dX4_troubleOfVisits_58 ((h19.1 c20).2 c21)
          · refine VE_iload 0 dX4_troubleOfVisits_43 (k := ?_)
            exact VM_iret dX4_troubleOfVisits_45 (h19.2 c20)
        · refine VE_bipush (-2) dX4_troubleOfVisits_24 (k := ?_)
          exact VM_iret dX4_troubleOfVisits_26 ((((h3.2 c4).2 c14).2 c15).2 c16)
