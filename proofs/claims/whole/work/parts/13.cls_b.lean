theorem dX4_troubleOfOne_0 : decode cX4_troubleOfOne 0 = .ok (.aload_n 0, 1) := by decide +kernel
theorem dX4_troubleOfOne_1 : decode cX4_troubleOfOne 1 = .ok (.getfield 21, 3) := by decide +kernel
theorem dX4_troubleOfOne_4 : decode cX4_troubleOfOne 4 = .ok (.iload_n 1, 1) := by decide +kernel
theorem dX4_troubleOfOne_5 : decode cX4_troubleOfOne 5 = .ok (.invokevirtual 64, 3) := by decide +kernel
theorem dX4_troubleOfOne_8 : decode cX4_troubleOfOne 8 = .ok (.ifCond .eq 17, 3) := by decide +kernel
theorem dX4_troubleOfOne_11 : decode cX4_troubleOfOne 11 = .ok (.aload_n 0, 1) := by decide +kernel
theorem dX4_troubleOfOne_12 : decode cX4_troubleOfOne 12 = .ok (.iload_n 2, 1) := by decide +kernel
theorem dX4_troubleOfOne_13 : decode cX4_troubleOfOne 13 = .ok (.iload_n 3, 1) := by decide +kernel
theorem dX4_troubleOfOne_14 : decode cX4_troubleOfOne 14 = .ok (.iload 4, 2) := by decide +kernel
theorem dX4_troubleOfOne_16 : decode cX4_troubleOfOne 16 = .ok (.iload 5, 2) := by decide +kernel
theorem dX4_troubleOfOne_18 : decode cX4_troubleOfOne 18 = .ok (.iconst 1, 1) := by decide +kernel
theorem dX4_troubleOfOne_19 : decode cX4_troubleOfOne 19 = .ok (.invokevirtual 84, 3) := by decide +kernel
theorem dX4_troubleOfOne_22 : decode cX4_troubleOfOne 22 = .ok (.goto 4, 3) := by decide +kernel
theorem dX4_troubleOfOne_25 : decode cX4_troubleOfOne 25 = .ok (.iconst (-1), 1) := by decide +kernel
theorem dX4_troubleOfOne_26 : decode cX4_troubleOfOne 26 = .ok (.ireturn, 1) := by decide +kernel
set_option maxRecDepth 20000 in
theorem S_X4_troubleOfOne_0 {g : GG} {d : Nat} {F : Int32 → St → Prop} (a1 : Int32) (a2 : Int32) (a3 : Int32) (a4 : Int32) (a5 : Int32) (σ : St) (h : (ME g d M_X0_has [vR 10, vI a1] σ (qI (fun r1 σ2 => ((r1 = 0 → F (-1) σ2) ∧ (¬ r1 = 0 → (ME g d M_X4_troubleOfVisits [vR 0, vI a2, vI a3, vI a4, vI a5, vI 1] σ2 (qI (fun r5 σ6 => F r5 σ6))))))))) : VM g (d + 1) M_X4_troubleOfOne (qI F) 0 [(0, vR 0), (1, vI a1), (2, vI a2), (3, vI a3), (4, vI a4), (5, vI a5)] [] σ := by
  refine VE_aload_n 0 dX4_troubleOfOne_0 (k := ?_)
  refine VE_getR 10 dX4_troubleOfOne_1 fl_X4_21 ?_
  refine VE_iload_n 1 dX4_troubleOfOne_4 (k := ?_)
  refine VE_cVi [vI a1] dX4_troubleOfOne_5 ml_X4_64 h (fun r1 σ2 h3 => ?_) (rok_D d)
  refine VE_if_eq 25 dX4_troubleOfOne_8 (fun c4 => ?_) (fun c4 => ?_)
  · refine VE_iconst (-1) dX4_troubleOfOne_25 (k := ?_)
    exact VM_iret dX4_troubleOfOne_26 (h3.1 c4)
  · refine VE_aload_n 0 dX4_troubleOfOne_11 (k := ?_)
    refine VE_iload_n 2 dX4_troubleOfOne_12 (k := ?_)
    refine VE_iload_n 3 dX4_troubleOfOne_13 (k := ?_)
    refine VE_iload 4 dX4_troubleOfOne_14 (k := ?_)
    refine VE_iload 5 dX4_troubleOfOne_16 (k := ?_)
    refine VE_iconst 1 dX4_troubleOfOne_18 (k := ?_)
    refine VE_cVi [vI a2, vI a3, vI a4, vI a5, vI 1] dX4_troubleOfOne_19 ml_X4_84 (h3.2 c4) (fun r5 σ6 h7 => ?_) (rok_D d)
    refine VE_goto 26 dX4_troubleOfOne_22 ?_
    exact VM_iret dX4_troubleOfOne_26 h7
theorem dX4_troubleOfNew_0 : decode cX4_troubleOfNew 0 = .ok (.iload_n 1, 1) := by decide +kernel
theorem dX4_troubleOfNew_1 : decode cX4_troubleOfNew 1 = .ok (.invokestatic 132, 3) := by decide +kernel
theorem dX4_troubleOfNew_4 : decode cX4_troubleOfNew 4 = .ok (.ifCond .ne 5, 3) := by decide +kernel
theorem dX4_troubleOfNew_7 : decode cX4_troubleOfNew 7 = .ok (.iconst (-1), 1) := by decide +kernel
theorem dX4_troubleOfNew_8 : decode cX4_troubleOfNew 8 = .ok (.ireturn, 1) := by decide +kernel
theorem dX4_troubleOfNew_9 : decode cX4_troubleOfNew 9 = .ok (.iload_n 2, 1) := by decide +kernel
theorem dX4_troubleOfNew_10 : decode cX4_troubleOfNew 10 = .ok (.invokestatic 185, 3) := by decide +kernel
theorem dX4_troubleOfNew_13 : decode cX4_troubleOfNew 13 = .ok (.ifCond .eq 9, 3) := by decide +kernel
theorem dX4_troubleOfNew_16 : decode cX4_troubleOfNew 16 = .ok (.iload_n 3, 1) := by decide +kernel
theorem dX4_troubleOfNew_17 : decode cX4_troubleOfNew 17 = .ok (.bipush 60, 2) := by decide +kernel
theorem dX4_troubleOfNew_19 : decode cX4_troubleOfNew 19 = .ok (.if_icmp .le 6, 3) := by decide +kernel
theorem dX4_troubleOfNew_22 : decode cX4_troubleOfNew 22 = .ok (.bipush (-2), 2) := by decide +kernel
theorem dX4_troubleOfNew_24 : decode cX4_troubleOfNew 24 = .ok (.ireturn, 1) := by decide +kernel
theorem dX4_troubleOfNew_25 : decode cX4_troubleOfNew 25 = .ok (.iload_n 3, 1) := by decide +kernel
theorem dX4_troubleOfNew_26 : decode cX4_troubleOfNew 26 = .ok (.ifCond .ge 8, 3) := by decide +kernel
theorem dX4_troubleOfNew_29 : decode cX4_troubleOfNew 29 = .ok (.bipush (-14), 2) := by decide +kernel
theorem dX4_troubleOfNew_31 : decode cX4_troubleOfNew 31 = .ok (.goto 4, 3) := by decide +kernel
theorem dX4_troubleOfNew_34 : decode cX4_troubleOfNew 34 = .ok (.iconst 0, 1) := by decide +kernel
theorem dX4_troubleOfNew_35 : decode cX4_troubleOfNew 35 = .ok (.ireturn, 1) := by decide +kernel
set_option maxRecDepth 20000 in
theorem S_X4_troubleOfNew_0 {g : GG} {d : Nat} {F : Int32 → St → Prop} (a1 : Int32) (a2 : Int32) (a3 : Int32) (σ : St) (h : (ME g d M_X4_isSheet [vI a1] σ (qI (fun r1 σ2 => ((¬ r1 = 0 → (ME g d M_X4_isLane [vI a2] σ2 (qI (fun r5 σ6 => ((r5 = 0 → F (-2) σ6) ∧ (¬ r5 = 0 → ((a3 ≤ 60 → ((0 ≤ a3 → F 0 σ6) ∧ (¬ 0 ≤ a3 → F (-14) σ6))) ∧ (¬ a3 ≤ 60 → F (-2) σ6)))))))) ∧ (r1 = 0 → F (-1) σ2)))))) : VM g (d + 1) M_X4_troubleOfNew (qI F) 0 [(0, vR 0), (1, vI a1), (2, vI a2), (3, vI a3)] [] σ := by
  refine VE_iload_n 1 dX4_troubleOfNew_0 (k := ?_)
  refine VE_cSi [vI a1] dX4_troubleOfNew_1 ml_X4_132 h (fun r1 σ2 h3 => ?_) (rok_D d)
  refine VE_if_ne 9 dX4_troubleOfNew_4 (fun c4 => ?_) (fun c4 => ?_)
  · refine VE_iload_n 2 dX4_troubleOfNew_9 (k := ?_)
    refine VE_cSi [vI a2] dX4_troubleOfNew_10 ml_X4_185 (h3.1 c4) (fun r5 σ6 h7 => ?_) (rok_D d)
    refine VE_if_eq 22 dX4_troubleOfNew_13 (fun c8 => ?_) (fun c8 => ?_)
    · refine VE_bipush (-2) dX4_troubleOfNew_22 (k := ?_)
      exact VM_iret dX4_troubleOfNew_24 (h7.1 c8)
    · refine VE_iload_n 3 dX4_troubleOfNew_16 (k := ?_)
      refine VE_bipush 60 dX4_troubleOfNew_17 (k := ?_)
      refine VE_icmp_le 25 dX4_troubleOfNew_19 (fun c9 => ?_) (fun c9 => ?_)
      · refine VE_iload_n 3 dX4_troubleOfNew_25 (k := ?_)
        refine VE_if_ge 34 dX4_troubleOfNew_26 (fun c10 => ?_) (fun c10 => ?_)
        · refine VE_iconst 0 dX4_troubleOfNew_34 (k := ?_)
          exact VM_iret dX4_troubleOfNew_35 (((h7.2 c8).1 c9).1 c10)
        · refine VE_bipush (-14) dX4_troubleOfNew_29 (k := ?_)
          refine VE_goto 35 dX4_troubleOfNew_31 ?_
          exact VM_iret dX4_troubleOfNew_35 (((h7.2 c8).1 c9).2 c10)
      · refine VE_bipush (-2) dX4_troubleOfNew_22 (k := ?_)
        exact VM_iret dX4_troubleOfNew_24 ((h7.2 c8).2 c9)
  · refine VE_iconst (-1) dX4_troubleOfNew_7 (k := ?_)
    exact VM_iret dX4_troubleOfNew_8 (h3.2 c4)
theorem dX4_troubleOfPut_0 : decode cX4_troubleOfPut 0 = .ok (.iload_n 1, 1) := by decide +kernel
theorem dX4_troubleOfPut_1 : decode cX4_troubleOfPut 1 = .ok (.invokestatic 132, 3) := by decide +kernel
theorem dX4_troubleOfPut_4 : decode cX4_troubleOfPut 4 = .ok (.ifCond .ne 5, 3) := by decide +kernel
theorem dX4_troubleOfPut_7 : decode cX4_troubleOfPut 7 = .ok (.iconst (-1), 1) := by decide +kernel
theorem dX4_troubleOfPut_8 : decode cX4_troubleOfPut 8 = .ok (.ireturn, 1) := by decide +kernel
theorem dX4_troubleOfPut_9 : decode cX4_troubleOfPut 9 = .ok (.aload_n 0, 1) := by decide +kernel
theorem dX4_troubleOfPut_10 : decode cX4_troubleOfPut 10 = .ok (.getfield 13, 3) := by decide +kernel
theorem dX4_troubleOfPut_13 : decode cX4_troubleOfPut 13 = .ok (.iload_n 1, 1) := by decide +kernel
theorem dX4_troubleOfPut_14 : decode cX4_troubleOfPut 14 = .ok (.aaload, 1) := by decide +kernel
theorem dX4_troubleOfPut_15 : decode cX4_troubleOfPut 15 = .ok (.invokevirtual 135, 3) := by decide +kernel
theorem dX4_troubleOfPut_18 : decode cX4_troubleOfPut 18 = .ok (.ifCond .eq 6, 3) := by decide +kernel
theorem dX4_troubleOfPut_21 : decode cX4_troubleOfPut 21 = .ok (.bipush (-11), 2) := by decide +kernel
theorem dX4_troubleOfPut_23 : decode cX4_troubleOfPut 23 = .ok (.ireturn, 1) := by decide +kernel
theorem dX4_troubleOfPut_24 : decode cX4_troubleOfPut 24 = .ok (.aload_n 0, 1) := by decide +kernel
theorem dX4_troubleOfPut_25 : decode cX4_troubleOfPut 25 = .ok (.getfield 13, 3) := by decide +kernel
theorem dX4_troubleOfPut_28 : decode cX4_troubleOfPut 28 = .ok (.iload_n 1, 1) := by decide +kernel
theorem dX4_troubleOfPut_29 : decode cX4_troubleOfPut 29 = .ok (.aaload, 1) := by decide +kernel
theorem dX4_troubleOfPut_30 : decode cX4_troubleOfPut 30 = .ok (.iload_n 2, 1) := by decide +kernel
theorem dX4_troubleOfPut_31 : decode cX4_troubleOfPut 31 = .ok (.iconst 1, 1) := by decide +kernel
theorem dX4_troubleOfPut_32 : decode cX4_troubleOfPut 32 = .ok (.invokevirtual 195, 3) := by decide +kernel
theorem dX4_troubleOfPut_35 : decode cX4_troubleOfPut 35 = .ok (.ifCond .eq 7, 3) := by decide +kernel
theorem dX4_troubleOfPut_38 : decode cX4_troubleOfPut 38 = .ok (.iconst 0, 1) := by decide +kernel
theorem dX4_troubleOfPut_39 : decode cX4_troubleOfPut 39 = .ok (.goto 5, 3) := by decide +kernel
theorem dX4_troubleOfPut_42 : decode cX4_troubleOfPut 42 = .ok (.bipush (-13), 2) := by decide +kernel
theorem dX4_troubleOfPut_44 : decode cX4_troubleOfPut 44 = .ok (.ireturn, 1) := by decide +kernel
set_option maxRecDepth 20000 in
theorem S_X4_troubleOfPut_0 {g : GG} {d : Nat} {F : Int32 → St → Prop} (a1 : Int32) (a2 : Int32) (σ : St) (h : (ME g d M_X4_isSheet [vI a1] σ (qI (fun r1 σ2 => ((¬ r1 = 0 → (vp_in a1 4 ∧ (ME g d M_X3_isNothing [vR (2 + a1.toNatClampNeg)] σ2 (qI (fun r5 σ6 => ((r5 = 0 → (ME g d M_X3_hasCells [vR (2 + a1.toNatClampNeg), vI a2, vI 1] σ6 (qI (fun r9 σ10 => ((r9 = 0 → F (-13) σ10) ∧ (¬ r9 = 0 → F 0 σ10)))))) ∧ (¬ r5 = 0 → F (-11) σ6))))))) ∧ (r1 = 0 → F (-1) σ2)))))) : VM g (d + 1) M_X4_troubleOfPut (qI F) 0 [(0, vR 0), (1, vI a1), (2, vI a2)] [] σ := by
  refine VE_iload_n 1 dX4_troubleOfPut_0 (k := ?_)
  refine VE_cSi [vI a1] dX4_troubleOfPut_1 ml_X4_132 h (fun r1 σ2 h3 => ?_) (rok_D d)
  refine VE_if_ne 9 dX4_troubleOfPut_4 (fun c4 => ?_) (fun c4 => ?_)
  · refine VE_aload_n 0 dX4_troubleOfPut_9 (k := ?_)
    refine VE_getR 1 dX4_troubleOfPut_10 fl_X4_13 ?_
    refine VE_iload_n 1 dX4_troubleOfPut_13 (k := ?_)
    refine VE_aald dX4_troubleOfPut_14 (h3.1 c4).1 ?_
    refine VE_cVi [] dX4_troubleOfPut_15 ml_X4_135 (h3.1 c4).2 (fun r5 σ6 h7 => ?_) (rok_D d) (hj := sh_ocl (vin_lt (h3.1 c4).1))
    refine VE_if_eq 24 dX4_troubleOfPut_18 (fun c8 => ?_) (fun c8 => ?_)
    · refine VE_aload_n 0 dX4_troubleOfPut_24 (k := ?_)
      refine VE_getR 1 dX4_troubleOfPut_25 fl_X4_13 ?_
      refine VE_iload_n 1 dX4_troubleOfPut_28 (k := ?_)
      refine VE_aald dX4_troubleOfPut_29 (h3.1 c4).1 ?_
      refine VE_iload_n 2 dX4_troubleOfPut_30 (k := ?_)
      refine VE_iconst 1 dX4_troubleOfPut_31 (k := ?_)
      refine VE_cVi [vI a2, vI 1] dX4_troubleOfPut_32 ml_X4_195 (h7.1 c8) (fun r9 σ10 h11 => ?_) (rok_D d) (hj := sh_ocl (vin_lt (h3.1 c4).1))
      refine VE_if_eq 42 dX4_troubleOfPut_35 (fun c12 => ?_) (fun c12 => ?_)
      · refine VE_bipush (-13) dX4_troubleOfPut_42 (k := ?_)
        exact VM_iret dX4_troubleOfPut_44 (h11.1 c12)
      · refine VE_iconst 0 dX4_troubleOfPut_38 (k := ?_)
        refine VE_goto 44 dX4_troubleOfPut_39 ?_
        exact VM_iret dX4_troubleOfPut_44 (h11.2 c12)
    · refine VE_bipush (-11) dX4_troubleOfPut_21 (k := ?_)
      exact VM_iret dX4_troubleOfPut_23 (h7.2 c8)
  · refine VE_iconst (-1) dX4_troubleOfPut_7 (k := ?_)
    exact VM_iret dX4_troubleOfPut_8 (h3.2 c4)
theorem dX4_troubleOfCopy_0 : decode cX4_troubleOfCopy 0 = .ok (.iload_n 1, 1) := by decide +kernel
theorem dX4_troubleOfCopy_1 : decode cX4_troubleOfCopy 1 = .ok (.invokestatic 132, 3) := by decide +kernel
theorem dX4_troubleOfCopy_4 : decode cX4_troubleOfCopy 4 = .ok (.ifCond .eq 10, 3) := by decide +kernel
theorem dX4_troubleOfCopy_7 : decode cX4_troubleOfCopy 7 = .ok (.iload_n 3, 1) := by decide +kernel
theorem dX4_troubleOfCopy_8 : decode cX4_troubleOfCopy 8 = .ok (.invokestatic 132, 3) := by decide +kernel
theorem dX4_troubleOfCopy_11 : decode cX4_troubleOfCopy 11 = .ok (.ifCond .ne 5, 3) := by decide +kernel
theorem dX4_troubleOfCopy_14 : decode cX4_troubleOfCopy 14 = .ok (.iconst (-1), 1) := by decide +kernel
theorem dX4_troubleOfCopy_15 : decode cX4_troubleOfCopy 15 = .ok (.ireturn, 1) := by decide +kernel
theorem dX4_troubleOfCopy_16 : decode cX4_troubleOfCopy 16 = .ok (.aload_n 0, 1) := by decide +kernel
theorem dX4_troubleOfCopy_17 : decode cX4_troubleOfCopy 17 = .ok (.getfield 13, 3) := by decide +kernel
theorem dX4_troubleOfCopy_20 : decode cX4_troubleOfCopy 20 = .ok (.iload_n 1, 1) := by decide +kernel
theorem dX4_troubleOfCopy_21 : decode cX4_troubleOfCopy 21 = .ok (.aaload, 1) := by decide +kernel
theorem dX4_troubleOfCopy_22 : decode cX4_troubleOfCopy 22 = .ok (.invokevirtual 135, 3) := by decide +kernel
theorem dX4_troubleOfCopy_25 : decode cX4_troubleOfCopy 25 = .ok (.ifCond .ne 15, 3) := by decide +kernel
theorem dX4_troubleOfCopy_28 : decode cX4_troubleOfCopy 28 = .ok (.aload_n 0, 1) := by decide +kernel
theorem dX4_troubleOfCopy_29 : decode cX4_troubleOfCopy 29 = .ok (.getfield 13, 3) := by decide +kernel
theorem dX4_troubleOfCopy_32 : decode cX4_troubleOfCopy 32 = .ok (.iload_n 3, 1) := by decide +kernel
theorem dX4_troubleOfCopy_33 : decode cX4_troubleOfCopy 33 = .ok (.aaload, 1) := by decide +kernel
theorem dX4_troubleOfCopy_34 : decode cX4_troubleOfCopy 34 = .ok (.invokevirtual 135, 3) := by decide +kernel
theorem dX4_troubleOfCopy_37 : decode cX4_troubleOfCopy 37 = .ok (.ifCond .eq 6, 3) := by decide +kernel
theorem dX4_troubleOfCopy_40 : decode cX4_troubleOfCopy 40 = .ok (.bipush (-11), 2) := by decide +kernel
theorem dX4_troubleOfCopy_42 : decode cX4_troubleOfCopy 42 = .ok (.ireturn, 1) := by decide +kernel
theorem dX4_troubleOfCopy_43 : decode cX4_troubleOfCopy 43 = .ok (.aload_n 0, 1) := by decide +kernel
theorem dX4_troubleOfCopy_44 : decode cX4_troubleOfCopy 44 = .ok (.getfield 13, 3) := by decide +kernel
theorem dX4_troubleOfCopy_47 : decode cX4_troubleOfCopy 47 = .ok (.iload_n 1, 1) := by decide +kernel
theorem dX4_troubleOfCopy_48 : decode cX4_troubleOfCopy 48 = .ok (.aaload, 1) := by decide +kernel
theorem dX4_troubleOfCopy_49 : decode cX4_troubleOfCopy 49 = .ok (.getfield 148, 3) := by decide +kernel
theorem dX4_troubleOfCopy_52 : decode cX4_troubleOfCopy 52 = .ok (.aload_n 0, 1) := by decide +kernel
theorem dX4_troubleOfCopy_53 : decode cX4_troubleOfCopy 53 = .ok (.getfield 13, 3) := by decide +kernel
theorem dX4_troubleOfCopy_56 : decode cX4_troubleOfCopy 56 = .ok (.iload_n 3, 1) := by decide +kernel
theorem dX4_troubleOfCopy_57 : decode cX4_troubleOfCopy 57 = .ok (.aaload, 1) := by decide +kernel
theorem dX4_troubleOfCopy_58 : decode cX4_troubleOfCopy 58 = .ok (.getfield 148, 3) := by decide +kernel
theorem dX4_troubleOfCopy_61 : decode cX4_troubleOfCopy 61 = .ok (.if_icmp .eq 6, 3) := by decide +kernel
theorem dX4_troubleOfCopy_64 : decode cX4_troubleOfCopy 64 = .ok (.bipush (-12), 2) := by decide +kernel
theorem dX4_troubleOfCopy_66 : decode cX4_troubleOfCopy 66 = .ok (.ireturn, 1) := by decide +kernel
theorem dX4_troubleOfCopy_67 : decode cX4_troubleOfCopy 67 = .ok (.aload_n 0, 1) := by decide +kernel
theorem dX4_troubleOfCopy_68 : decode cX4_troubleOfCopy 68 = .ok (.getfield 13, 3) := by decide +kernel
theorem dX4_troubleOfCopy_71 : decode cX4_troubleOfCopy 71 = .ok (.iload_n 1, 1) := by decide +kernel
theorem dX4_troubleOfCopy_72 : decode cX4_troubleOfCopy 72 = .ok (.aaload, 1) := by decide +kernel
theorem dX4_troubleOfCopy_73 : decode cX4_troubleOfCopy 73 = .ok (.iload_n 2, 1) := by decide +kernel
theorem dX4_troubleOfCopy_74 : decode cX4_troubleOfCopy 74 = .ok (.iload 5, 2) := by decide +kernel
theorem dX4_troubleOfCopy_76 : decode cX4_troubleOfCopy 76 = .ok (.invokevirtual 195, 3) := by decide +kernel
theorem dX4_troubleOfCopy_79 : decode cX4_troubleOfCopy 79 = .ok (.ifCond .eq 23, 3) := by decide +kernel
theorem dX4_troubleOfCopy_82 : decode cX4_troubleOfCopy 82 = .ok (.aload_n 0, 1) := by decide +kernel
theorem dX4_troubleOfCopy_83 : decode cX4_troubleOfCopy 83 = .ok (.getfield 13, 3) := by decide +kernel
theorem dX4_troubleOfCopy_86 : decode cX4_troubleOfCopy 86 = .ok (.iload_n 3, 1) := by decide +kernel
theorem dX4_troubleOfCopy_87 : decode cX4_troubleOfCopy 87 = .ok (.aaload, 1) := by decide +kernel
theorem dX4_troubleOfCopy_88 : decode cX4_troubleOfCopy 88 = .ok (.iload 4, 2) := by decide +kernel
theorem dX4_troubleOfCopy_90 : decode cX4_troubleOfCopy 90 = .ok (.iload 5, 2) := by decide +kernel
theorem dX4_troubleOfCopy_92 : decode cX4_troubleOfCopy 92 = .ok (.invokevirtual 195, 3) := by decide +kernel
theorem dX4_troubleOfCopy_95 : decode cX4_troubleOfCopy 95 = .ok (.ifCond .eq 7, 3) := by decide +kernel
theorem dX4_troubleOfCopy_98 : decode cX4_troubleOfCopy 98 = .ok (.iconst 0, 1) := by decide +kernel
theorem dX4_troubleOfCopy_99 : decode cX4_troubleOfCopy 99 = .ok (.goto 5, 3) := by decide +kernel
theorem dX4_troubleOfCopy_102 : decode cX4_troubleOfCopy 102 = .ok (.bipush (-13), 2) := by decide +kernel
theorem dX4_troubleOfCopy_104 : decode cX4_troubleOfCopy 104 = .ok (.ireturn, 1) := by decide +kernel
set_option maxRecDepth 20000 in
theorem S_X4_troubleOfCopy_0 {g : GG} {d : Nat} {F : Int32 → St → Prop} (a1 : Int32) (a2 : Int32) (a3 : Int32) (a4 : Int32) (a5 : Int32) (σ : St) (h : (ME g d M_X4_isSheet [vI a1] σ (qI (fun r1 σ2 => ((r1 = 0 → F (-1) σ2) ∧ (¬ r1 = 0 → (ME g d M_X4_isSheet [vI a3] σ2 (qI (fun r5 σ6 => ((¬ r5 = 0 → (vp_in a1 4 ∧ (ME g d M_X3_isNothing [vR (2 + a1.toNatClampNeg)] σ6 (qI (fun r9 σ10 => ((¬ r9 = 0 → F (-11) σ10) ∧ (r9 = 0 → (vp_in a3 4 ∧ (ME g d M_X3_isNothing [vR (2 + a3.toNatClampNeg)] σ10 (qI (fun r13 σ14 => ((r13 = 0 → (((σ14 (2 + a1.toNatClampNeg) 1) = (σ14 (2 + a3.toNatClampNeg) 1) → (ME g d M_X3_hasCells [vR (2 + a1.toNatClampNeg), vI a2, vI a5] σ14 (qI (fun r18 σ19 => ((r18 = 0 → F (-13) σ19) ∧ (¬ r18 = 0 → (ME g d M_X3_hasCells [vR (2 + a3.toNatClampNeg), vI a4, vI a5] σ19 (qI (fun r22 σ23 => ((r22 = 0 → F (-13) σ23) ∧ (¬ r22 = 0 → F 0 σ23))))))))))) ∧ (¬ (σ14 (2 + a1.toNatClampNeg) 1) = (σ14 (2 + a3.toNatClampNeg) 1) → F (-12) σ14))) ∧ (¬ r13 = 0 → F (-11) σ14))))))))))))) ∧ (r5 = 0 → F (-1) σ6))))))))))) : VM g (d + 1) M_X4_troubleOfCopy (qI F) 0 [(0, vR 0), (1, vI a1), (2, vI a2), (3, vI a3), (4, vI a4), (5, vI a5)] [] σ := by
  refine VE_iload_n 1 dX4_troubleOfCopy_0 (k := ?_)
  refine VE_cSi [vI a1] dX4_troubleOfCopy_1 ml_X4_132 h (fun r1 σ2 h3 => ?_) (rok_D d)
  refine VE_if_eq 14 dX4_troubleOfCopy_4 (fun c4 => ?_) (fun c4 => ?_)
  · refine VE_iconst (-1) dX4_troubleOfCopy_14 (k := ?_)
    exact VM_iret dX4_troubleOfCopy_15 (h3.1 c4)
  · refine VE_iload_n 3 dX4_troubleOfCopy_7 (k := ?_)
    refine VE_cSi [vI a3] dX4_troubleOfCopy_8 ml_X4_132 (h3.2 c4) (fun r5 σ6 h7 => ?_) (rok_D d)
    refine VE_if_ne 16 dX4_troubleOfCopy_11 (fun c8 => ?_) (fun c8 => ?_)
    · refine VE_aload_n 0 dX4_troubleOfCopy_16 (k := ?_)
      refine VE_getR 1 dX4_troubleOfCopy_17 fl_X4_13 ?_
      refine VE_iload_n 1 dX4_troubleOfCopy_20 (k := ?_)
      refine VE_aald dX4_troubleOfCopy_21 (h7.1 c8).1 ?_
      refine VE_cVi [] dX4_troubleOfCopy_22 ml_X4_135 (h7.1 c8).2 (fun r9 σ10 h11 => ?_) (rok_D d) (hj := sh_ocl (vin_lt (h7.1 c8).1))
      refine VE_if_ne 40 dX4_troubleOfCopy_25 (fun c12 => ?_) (fun c12 => ?_)
      · refine VE_bipush (-11) dX4_troubleOfCopy_40 (k := ?_)
        exact VM_iret dX4_troubleOfCopy_42 (h11.1 c12)
      · refine VE_aload_n 0 dX4_troubleOfCopy_28 (k := ?_)
        refine VE_getR 1 dX4_troubleOfCopy_29 fl_X4_13 ?_
        refine VE_iload_n 3 dX4_troubleOfCopy_32 (k := ?_)
        refine VE_aald dX4_troubleOfCopy_33 (h11.2 c12).1 ?_
        refine VE_cVi [] dX4_troubleOfCopy_34 ml_X4_135 (h11.2 c12).2 (fun r13 σ14 h15 => ?_) (rok_D d) (hj := sh_ocl (vin_lt (h11.2 c12).1))
        refine VE_if_eq 43 dX4_troubleOfCopy_37 (fun c16 => ?_) (fun c16 => ?_)
        · refine VE_aload_n 0 dX4_troubleOfCopy_43 (k := ?_)
          refine VE_getR 1 dX4_troubleOfCopy_44 fl_X4_13 ?_
          refine VE_iload_n 1 dX4_troubleOfCopy_47 (k := ?_)
          refine VE_aald dX4_troubleOfCopy_48 (h7.1 c8).1 ?_
          refine VE_getI dX4_troubleOfCopy_49 fl_X4_148 ?_ (sh_f1 (vin_lt (h7.1 c8).1))
          refine VE_aload_n 0 dX4_troubleOfCopy_52 (k := ?_)
          refine VE_getR 1 dX4_troubleOfCopy_53 fl_X4_13 ?_
          refine VE_iload_n 3 dX4_troubleOfCopy_56 (k := ?_)
          refine VE_aald dX4_troubleOfCopy_57 (h11.2 c12).1 ?_
          refine VE_getI dX4_troubleOfCopy_58 fl_X4_148 ?_ (sh_f1 (vin_lt (h11.2 c12).1))
          refine VE_icmp_eq 67 dX4_troubleOfCopy_61 (fun c17 => ?_) (fun c17 => ?_)
          · refine VE_aload_n 0 dX4_troubleOfCopy_67 (k := ?_)
            refine VE_getR 1 dX4_troubleOfCopy_68 fl_X4_13 ?_
            refine VE_iload_n 1 dX4_troubleOfCopy_71 (k := ?_)
            refine VE_aald dX4_troubleOfCopy_72 (h7.1 c8).1 ?_
            refine VE_iload_n 2 dX4_troubleOfCopy_73 (k := ?_)
            refine VE_iload 5 dX4_troubleOfCopy_74 (k := ?_)
            refine VE_cVi [vI a2, vI a5] dX4_troubleOfCopy_76 ml_X4_195 ((h15.1 c16).1 c17) (fun r18 σ19 h20 => ?_) (rok_D d) (hj := sh_ocl (vin_lt (h7.1 c8).1))
            refine VE_if_eq 102 dX4_troubleOfCopy_79 (fun c21 => ?_) (fun c21 => ?_)
            · refine VE_bipush (-13) dX4_troubleOfCopy_102 (k := ?_)
              exact VM_iret dX4_troubleOfCopy_104 (h20.1 c21)
            · refine VE_aload_n 0 dX4_troubleOfCopy_82 (k := ?_)
              refine VE_getR 1 dX4_troubleOfCopy_83 fl_X4_13 ?_
              refine VE_iload_n 3 dX4_troubleOfCopy_86 (k := ?_)
              refine VE_aald dX4_troubleOfCopy_87 (h11.2 c12).1 ?_
              refine VE_iload 4 dX4_troubleOfCopy_88 (k := ?_)
              refine VE_iload 5 dX4_troubleOfCopy_90 (k := ?_)
              refine VE_cVi [vI a4, vI a5] dX4_troubleOfCopy_92 ml_X4_195 (h20.2 c21) (fun r22 σ23 h24 => ?_) (rok_D d) (hj := sh_ocl (vin_lt (h11.2 c12).1))
              refine VE_if_eq 102 dX4_troubleOfCopy_95 (fun c25 => ?_) (fun c25 => ?_)
              · refine VE_bipush (-13) dX4_troubleOfCopy_102 (k := ?_)
                exact VM_iret dX4_troubleOfCopy_104 (h24.1 c25)
              · refine VE_iconst 0 dX4_troubleOfCopy_98 (k := ?_)
                refine VE_goto 104 dX4_troubleOfCopy_99 ?_
                exact VM_iret dX4_troubleOfCopy_104 (h24.2 c25)
          · refine VE_bipush (-12) dX4_troubleOfCopy_64 (k := ?_)
            exact VM_iret dX4_troubleOfCopy_66 ((h15.1 c16).2 c17)
        · refine VE_bipush (-11) dX4_troubleOfCopy_40 (k := ?_)
          exact VM_iret dX4_troubleOfCopy_42 (h15.2 c16)
    · refine VE_iconst (-1) dX4_troubleOfCopy_14 (k := ?_)
      exact VM_iret dX4_troubleOfCopy_15 (h7.2 c8)
theorem dX4_answerOfKind_0 : decode cX4_answerOfKind 0 = .ok (.aload_n 0, 1) := by decide +kernel
theorem dX4_answerOfKind_1 : decode cX4_answerOfKind 1 = .ok (.getfield 21, 3) := by decide +kernel
theorem dX4_answerOfKind_4 : decode cX4_answerOfKind 4 = .ok (.iload_n 1, 1) := by decide +kernel
theorem dX4_answerOfKind_5 : decode cX4_answerOfKind 5 = .ok (.invokevirtual 64, 3) := by decide +kernel
theorem dX4_answerOfKind_8 : decode cX4_answerOfKind 8 = .ok (.ifCond .ne 5, 3) := by decide +kernel
theorem dX4_answerOfKind_11 : decode cX4_answerOfKind 11 = .ok (.iconst (-1), 1) := by decide +kernel
theorem dX4_answerOfKind_12 : decode cX4_answerOfKind 12 = .ok (.ireturn, 1) := by decide +kernel
theorem dX4_answerOfKind_13 : decode cX4_answerOfKind 13 = .ok (.iload_n 2, 1) := by decide +kernel
theorem dX4_answerOfKind_14 : decode cX4_answerOfKind 14 = .ok (.ifCond .lt 8, 3) := by decide +kernel
theorem dX4_answerOfKind_17 : decode cX4_answerOfKind 17 = .ok (.iload_n 2, 1) := by decide +kernel
theorem dX4_answerOfKind_18 : decode cX4_answerOfKind 18 = .ok (.iconst 3, 1) := by decide +kernel
theorem dX4_answerOfKind_19 : decode cX4_answerOfKind 19 = .ok (.if_icmp .lt 6, 3) := by decide +kernel
theorem dX4_answerOfKind_22 : decode cX4_answerOfKind 22 = .ok (.bipush (-2), 2) := by decide +kernel
theorem dX4_answerOfKind_24 : decode cX4_answerOfKind 24 = .ok (.ireturn, 1) := by decide +kernel
theorem dX4_answerOfKind_25 : decode cX4_answerOfKind 25 = .ok (.aload_n 0, 1) := by decide +kernel
theorem dX4_answerOfKind_26 : decode cX4_answerOfKind 26 = .ok (.getfield 21, 3) := by decide +kernel
theorem dX4_answerOfKind_29 : decode cX4_answerOfKind 29 = .ok (.getfield 68, 3) := by decide +kernel
theorem dX4_answerOfKind_32 : decode cX4_answerOfKind 32 = .ok (.iload_n 1, 1) := by decide +kernel
theorem dX4_answerOfKind_33 : decode cX4_answerOfKind 33 = .ok (.iaload, 1) := by decide +kernel
theorem dX4_answerOfKind_34 : decode cX4_answerOfKind 34 = .ok (.iload_n 2, 1) := by decide +kernel
theorem dX4_answerOfKind_35 : decode cX4_answerOfKind 35 = .ok (.if_icmp .lt 7, 3) := by decide +kernel
theorem dX4_answerOfKind_38 : decode cX4_answerOfKind 38 = .ok (.iconst 1, 1) := by decide +kernel
theorem dX4_answerOfKind_39 : decode cX4_answerOfKind 39 = .ok (.goto 5, 3) := by decide +kernel
theorem dX4_answerOfKind_42 : decode cX4_answerOfKind 42 = .ok (.bipush (-12), 2) := by decide +kernel
theorem dX4_answerOfKind_44 : decode cX4_answerOfKind 44 = .ok (.ireturn, 1) := by decide +kernel
set_option maxRecDepth 20000 in
theorem S_X4_answerOfKind_0 {g : GG} {d : Nat} {F : Int32 → St → Prop} (a1 : Int32) (a2 : Int32) (σ : St) (h : (ME g d M_X0_has [vR 10, vI a1] σ (qI (fun r1 σ2 => ((¬ r1 = 0 → ((a2 < 0 → F (-2) σ2) ∧ (¬ a2 < 0 → ((a2 < 3 → (vp_in a1 5 ∧ (((σ2 11 a1.toNatClampNeg) < a2 → F (-12) σ2) ∧ (¬ (σ2 11 a1.toNatClampNeg) < a2 → F 1 σ2)))) ∧ (¬ a2 < 3 → F (-2) σ2))))) ∧ (r1 = 0 → F (-1) σ2)))))) : VM g (d + 1) M_X4_answerOfKind (qI F) 0 [(0, vR 0), (1, vI a1), (2, vI a2)] [] σ := by
  refine VE_aload_n 0 dX4_answerOfKind_0 (k := ?_)
  refine VE_getR 10 dX4_answerOfKind_1 fl_X4_21 ?_
  refine VE_iload_n 1 dX4_answerOfKind_4 (k := ?_)
  refine VE_cVi [vI a1] dX4_answerOfKind_5 ml_X4_64 h (fun r1 σ2 h3 => ?_) (rok_D d)
  refine VE_if_ne 13 dX4_answerOfKind_8 (fun c4 => ?_) (fun c4 => ?_)
  · refine VE_iload_n 2 dX4_answerOfKind_13 (k := ?_)
    refine VE_if_lt 22 dX4_answerOfKind_14 (fun c5 => ?_) (fun c5 => ?_)
    · refine VE_bipush (-2) dX4_answerOfKind_22 (k := ?_)
      exact VM_iret dX4_answerOfKind_24 ((h3.1 c4).1 c5)
    · refine VE_iload_n 2 dX4_answerOfKind_17 (k := ?_)
      refine VE_iconst 3 dX4_answerOfKind_18 (k := ?_)
      refine VE_icmp_lt 25 dX4_answerOfKind_19 (fun c6 => ?_) (fun c6 => ?_)
      · refine VE_aload_n 0 dX4_answerOfKind_25 (k := ?_)
        refine VE_getR 10 dX4_answerOfKind_26 fl_X4_21 ?_
        refine VE_getR 11 dX4_answerOfKind_29 fl_X4_68 ?_
        refine VE_iload_n 1 dX4_answerOfKind_32 (k := ?_)
        refine VE_iald dX4_answerOfKind_33 (((h3.1 c4).2 c5).1 c6).1 ?_
        refine VE_iload_n 2 dX4_answerOfKind_34 (k := ?_)
        refine VE_icmp_lt 42 dX4_answerOfKind_35 (fun c7 => ?_) (fun c7 => ?_)
        · refine VE_bipush (-12) dX4_answerOfKind_42 (k := ?_)
          exact VM_iret dX4_answerOfKind_44 ((((h3.1 c4).2 c5).1 c6).2.1 c7)
        · refine VE_iconst 1 dX4_answerOfKind_38 (k := ?_)
          refine VE_goto 44 dX4_answerOfKind_39 ?_
          exact VM_iret dX4_answerOfKind_44 ((((h3.1 c4).2 c5).1 c6).2.2 c7)
      · refine VE_bipush (-2) dX4_answerOfKind_22 (k := ?_)
        exact VM_iret dX4_answerOfKind_24 (((h3.1 c4).2 c5).2 c6)
  · refine VE_iconst (-1) dX4_answerOfKind_11 (k := ?_)
    exact VM_iret dX4_answerOfKind_12 (h3.2 c4)
theorem dX4_isSheet_0 : decode cX4_isSheet 0 = .ok (.iload_n 0, 1) := by decide +kernel
theorem dX4_isSheet_1 : decode cX4_isSheet 1 = .ok (.ifCond .lt 12, 3) := by decide +kernel
theorem dX4_isSheet_4 : decode cX4_isSheet 4 = .ok (.iload_n 0, 1) := by decide +kernel
theorem dX4_isSheet_5 : decode cX4_isSheet 5 = .ok (.iconst 4, 1) := by decide +kernel
theorem dX4_isSheet_6 : decode cX4_isSheet 6 = .ok (.if_icmp .ge 7, 3) := by decide +kernel
theorem dX4_isSheet_9 : decode cX4_isSheet 9 = .ok (.iconst 1, 1) := by decide +kernel
theorem dX4_isSheet_10 : decode cX4_isSheet 10 = .ok (.goto 4, 3) := by decide +kernel
theorem dX4_isSheet_13 : decode cX4_isSheet 13 = .ok (.iconst 0, 1) := by decide +kernel
theorem dX4_isSheet_14 : decode cX4_isSheet 14 = .ok (.ireturn, 1) := by decide +kernel
set_option maxRecDepth 20000 in
theorem S_X4_isSheet_0 {g : GG} {d : Nat} {F : Int32 → St → Prop} (a1 : Int32) (σ : St) (h : ((a1 < 0 → F 0 σ) ∧ (¬ a1 < 0 → ((4 ≤ a1 → F 0 σ) ∧ (¬ 4 ≤ a1 → F 1 σ))))) : VM g d M_X4_isSheet (qI F) 0 [(0, vI a1)] [] σ := by
  refine VE_iload_n 0 dX4_isSheet_0 (k := ?_)
  refine VE_if_lt 13 dX4_isSheet_1 (fun c1 => ?_) (fun c1 => ?_)
  · refine VE_iconst 0 dX4_isSheet_13 (k := ?_)
    exact VM_zret dX4_isSheet_14 (h.1 c1) (by decide)
  · refine VE_iload_n 0 dX4_isSheet_4 (k := ?_)
    refine VE_iconst 4 dX4_isSheet_5 (k := ?_)
    refine VE_icmp_ge 13 dX4_isSheet_6 (fun c2 => ?_) (fun c2 => ?_)
    · refine VE_iconst 0 dX4_isSheet_13 (k := ?_)
      exact VM_zret dX4_isSheet_14 ((h.2 c1).1 c2) (by decide)
    · refine VE_iconst 1 dX4_isSheet_9 (k := ?_)
      refine VE_goto 14 dX4_isSheet_10 ?_
      exact VM_zret dX4_isSheet_14 ((h.2 c1).2 c2) (by decide)
theorem dX4_isLane_0 : decode cX4_isLane 0 = .ok (.iload_n 0, 1) := by decide +kernel
theorem dX4_isLane_1 : decode cX4_isLane 1 = .ok (.ifCond .lt 12, 3) := by decide +kernel
theorem dX4_isLane_4 : decode cX4_isLane 4 = .ok (.iload_n 0, 1) := by decide +kernel
theorem dX4_isLane_5 : decode cX4_isLane 5 = .ok (.iconst 3, 1) := by decide +kernel
theorem dX4_isLane_6 : decode cX4_isLane 6 = .ok (.if_icmp .ge 7, 3) := by decide +kernel
theorem dX4_isLane_9 : decode cX4_isLane 9 = .ok (.iconst 1, 1) := by decide +kernel
theorem dX4_isLane_10 : decode cX4_isLane 10 = .ok (.goto 4, 3) := by decide +kernel
theorem dX4_isLane_13 : decode cX4_isLane 13 = .ok (.iconst 0, 1) := by decide +kernel
theorem dX4_isLane_14 : decode cX4_isLane 14 = .ok (.ireturn, 1) := by decide +kernel
set_option maxRecDepth 20000 in
theorem S_X4_isLane_0 {g : GG} {d : Nat} {F : Int32 → St → Prop} (a1 : Int32) (σ : St) (h : ((a1 < 0 → F 0 σ) ∧ (¬ a1 < 0 → ((3 ≤ a1 → F 0 σ) ∧ (¬ 3 ≤ a1 → F 1 σ))))) : VM g d M_X4_isLane (qI F) 0 [(0, vI a1)] [] σ := by
  refine VE_iload_n 0 dX4_isLane_0 (k := ?_)
  refine VE_if_lt 13 dX4_isLane_1 (fun c1 => ?_) (fun c1 => ?_)
  · refine VE_iconst 0 dX4_isLane_13 (k := ?_)
    exact VM_zret dX4_isLane_14 (h.1 c1) (by decide)
  · refine VE_iload_n 0 dX4_isLane_4 (k := ?_)
    refine VE_iconst 3 dX4_isLane_5 (k := ?_)
    refine VE_icmp_ge 13 dX4_isLane_6 (fun c2 => ?_) (fun c2 => ?_)
    · refine VE_iconst 0 dX4_isLane_13 (k := ?_)
      exact VM_zret dX4_isLane_14 ((h.2 c1).1 c2) (by decide)
    · refine VE_iconst 1 dX4_isLane_9 (k := ?_)
      refine VE_goto 14 dX4_isLane_10 ?_
      exact VM_zret dX4_isLane_14 ((h.2 c1).2 c2) (by decide)
theorem dX4_isQuestion_0 : decode cX4_isQuestion 0 = .ok (.iload_n 0, 1) := by decide +kernel
theorem dX4_isQuestion_1 : decode cX4_isQuestion 1 = .ok (.ifCond .lt 21, 3) := by decide +kernel
theorem dX4_isQuestion_4 : decode cX4_isQuestion 4 = .ok (.iload_n 0, 1) := by decide +kernel
theorem dX4_isQuestion_5 : decode cX4_isQuestion 5 = .ok (.bipush 40, 2) := by decide +kernel
theorem dX4_isQuestion_7 : decode cX4_isQuestion 7 = .ok (.if_icmp .ge 15, 3) := by decide +kernel
theorem dX4_isQuestion_10 : decode cX4_isQuestion 10 = .ok (.iload_n 0, 1) := by decide +kernel
theorem dX4_isQuestion_11 : decode cX4_isQuestion 11 = .ok (.bipush 10, 2) := by decide +kernel
theorem dX4_isQuestion_13 : decode cX4_isQuestion 13 = .ok (.irem, 1) := by decide +kernel
theorem dX4_isQuestion_14 : decode cX4_isQuestion 14 = .ok (.iconst 5, 1) := by decide +kernel
theorem dX4_isQuestion_15 : decode cX4_isQuestion 15 = .ok (.if_icmp .ge 7, 3) := by decide +kernel
theorem dX4_isQuestion_18 : decode cX4_isQuestion 18 = .ok (.iconst 1, 1) := by decide +kernel
theorem dX4_isQuestion_19 : decode cX4_isQuestion 19 = .ok (.goto 4, 3) := by decide +kernel
theorem dX4_isQuestion_22 : decode cX4_isQuestion 22 = .ok (.iconst 0, 1) := by decide +kernel
theorem dX4_isQuestion_23 : decode cX4_isQuestion 23 = .ok (.ireturn, 1) := by decide +kernel
set_option maxRecDepth 20000 in
theorem S_X4_isQuestion_0 {g : GG} {d : Nat} {F : Int32 → St → Prop} (a1 : Int32) (σ : St) (h : ((a1 < 0 → F 0 σ) ∧ (¬ a1 < 0 → ((40 ≤ a1 → F 0 σ) ∧ (¬ 40 ≤ a1 → ((5 ≤ (a1 - a1 / 10 * 10) → F 0 σ) ∧ (¬ 5 ≤ (a1 - a1 / 10 * 10) → F 1 σ))))))) : VM g d M_X4_isQuestion (qI F) 0 [(0, vI a1)] [] σ := by
  refine VE_iload_n 0 dX4_isQuestion_0 (k := ?_)
  refine VE_if_lt 22 dX4_isQuestion_1 (fun c1 => ?_) (fun c1 => ?_)
  · refine VE_iconst 0 dX4_isQuestion_22 (k := ?_)
    exact VM_zret dX4_isQuestion_23 (h.1 c1) (by decide)
  · refine VE_iload_n 0 dX4_isQuestion_4 (k := ?_)
    refine VE_bipush 40 dX4_isQuestion_5 (k := ?_)
    refine VE_icmp_ge 22 dX4_isQuestion_7 (fun c2 => ?_) (fun c2 => ?_)
    · refine VE_iconst 0 dX4_isQuestion_22 (k := ?_)
      exact VM_zret dX4_isQuestion_23 ((h.2 c1).1 c2) (by decide)
    · refine VE_iload_n 0 dX4_isQuestion_10 (k := ?_)
      refine VE_bipush 10 dX4_isQuestion_11 (k := ?_)
      refine VE_irem dX4_isQuestion_13 (by decide) ?_
      refine VE_iconst 5 dX4_isQuestion_14 (k := ?_)
      refine VE_icmp_ge 22 dX4_isQuestion_15 (fun c3 => ?_) (fun c3 => ?_)
      · refine VE_iconst 0 dX4_isQuestion_22 (k := ?_)
        exact VM_zret dX4_isQuestion_23 (((h.2 c1).2 c2).1 c3) (by decide)
      · refine VE_iconst 1 dX4_isQuestion_18 (k := ?_)
        refine VE_goto 23 dX4_isQuestion_19 ?_
        exact VM_zret dX4_isQuestion_23 (((h.2 c1).2 c2).2 c3) (by decide)
theorem dX4_firstFault_0 : decode cX4_firstFault 0 = .ok (.iconst 0, 1) := by decide +kernel
theorem dX4_firstFault_1 : decode cX4_firstFault 1 = .ok (.istore_n 3, 1) := by decide +kernel
theorem dX4_firstFault_2 : decode cX4_firstFault 2 = .ok (.iload_n 3, 1) := by decide +kernel
theorem dX4_firstFault_3 : decode cX4_firstFault 3 = .ok (.iload_n 2, 1) := by decide +kernel
theorem dX4_firstFault_4 : decode cX4_firstFault 4 = .ok (.if_icmp .ge 26, 3) := by decide +kernel
theorem dX4_firstFault_7 : decode cX4_firstFault 7 = .ok (.iload_n 3, 1) := by decide +kernel
theorem dX4_firstFault_8 : decode cX4_firstFault 8 = .ok (.aload_n 0, 1) := by decide +kernel
theorem dX4_firstFault_9 : decode cX4_firstFault 9 = .ok (.getfield 145, 3) := by decide +kernel
theorem dX4_firstFault_12 : decode cX4_firstFault 12 = .ok (.iload_n 1, 1) := by decide +kernel
theorem dX4_firstFault_13 : decode cX4_firstFault 13 = .ok (.iload_n 3, 1) := by decide +kernel
theorem dX4_firstFault_14 : decode cX4_firstFault 14 = .ok (.iadd, 1) := by decide +kernel
theorem dX4_firstFault_15 : decode cX4_firstFault 15 = .ok (.iaload, 1) := by decide +kernel
theorem dX4_firstFault_16 : decode cX4_firstFault 16 = .ok (.invokestatic 199, 3) := by decide +kernel
theorem dX4_firstFault_19 : decode cX4_firstFault 19 = .ok (.ifCond .ne 5, 3) := by decide +kernel
theorem dX4_firstFault_22 : decode cX4_firstFault 22 = .ok (.iload_n 3, 1) := by decide +kernel
theorem dX4_firstFault_23 : decode cX4_firstFault 23 = .ok (.ireturn, 1) := by decide +kernel
theorem dX4_firstFault_24 : decode cX4_firstFault 24 = .ok (.iinc 3 1, 3) := by decide +kernel
theorem dX4_firstFault_27 : decode cX4_firstFault 27 = .ok (.goto (-25), 3) := by decide +kernel
theorem dX4_firstFault_30 : decode cX4_firstFault 30 = .ok (.iload_n 2, 1) := by decide +kernel
theorem dX4_firstFault_31 : decode cX4_firstFault 31 = .ok (.bipush 8, 2) := by decide +kernel
theorem dX4_firstFault_33 : decode cX4_firstFault 33 = .ok (.if_icmp .le 15, 3) := by decide +kernel
theorem dX4_firstFault_36 : decode cX4_firstFault 36 = .ok (.iload_n 2, 1) := by decide +kernel
theorem dX4_firstFault_37 : decode cX4_firstFault 37 = .ok (.iconst 1, 1) := by decide +kernel
theorem dX4_firstFault_38 : decode cX4_firstFault 38 = .ok (.isub, 1) := by decide +kernel
theorem dX4_firstFault_39 : decode cX4_firstFault 39 = .ok (.iconst 4, 1) := by decide +kernel
theorem dX4_firstFault_40 : decode cX4_firstFault 40 = .ok (.irem, 1) := by decide +kernel
theorem dX4_firstFault_41 : decode cX4_firstFault 41 = .ok (.ifCond .ne 7, 3) := by decide +kernel
theorem dX4_firstFault_44 : decode cX4_firstFault 44 = .ok (.iconst 1, 1) := by decide +kernel
theorem dX4_firstFault_45 : decode cX4_firstFault 45 = .ok (.goto 4, 3) := by decide +kernel
theorem dX4_firstFault_48 : decode cX4_firstFault 48 = .ok (.iconst 0, 1) := by decide +kernel
theorem dX4_firstFault_49 : decode cX4_firstFault 49 = .ok (.istore_n 3, 1) := by decide +kernel
theorem dX4_firstFault_50 : decode cX4_firstFault 50 = .ok (.iload_n 3, 1) := by decide +kernel
theorem dX4_firstFault_51 : decode cX4_firstFault 51 = .ok (.ifCond .eq 8, 3) := by decide +kernel
theorem dX4_firstFault_54 : decode cX4_firstFault 54 = .ok (.bipush (-9), 2) := by decide +kernel
theorem dX4_firstFault_56 : decode cX4_firstFault 56 = .ok (.goto 4, 3) := by decide +kernel
theorem dX4_firstFault_59 : decode cX4_firstFault 59 = .ok (.iload_n 2, 1) := by decide +kernel
theorem dX4_firstFault_60 : decode cX4_firstFault 60 = .ok (.ireturn, 1) := by decide +kernel
set_option maxRecDepth 20000 in
theorem S_X4_firstFault_0 {g : GG} {d : Nat} {F : Int32 → St → Prop} {k : Nat} (hk : k < 4) (a2 : Int32) (a3 : Int32) (σ : St) (h : VM g (d + 1) M_X4_firstFault (qI F) 2 [(0, vR (2 + k)), (1, vI a2), (2, vI a3), (3, vI 0)] [] σ) : VM g (d + 1) M_X4_firstFault (qI F) 0 [(0, vR (2 + k)), (1, vI a2), (2, vI a3)] [] σ := by
  refine VE_iconst 0 dX4_firstFault_0 (k := ?_)
  refine VE_istore_n (ls' := [(3, vI 0), (0, vR (2 + k)), (1, vI a2), (2, vI a3)]) dX4_firstFault_1 ?_
  exact VE_sub [1, 2, 3, 0] rfl h
set_option maxRecDepth 20000 in
theorem S_X4_firstFault_2 {g : GG} {d : Nat} {F : Int32 → St → Prop} {k : Nat} (hk : k < 4) (x1 : Int32) (x2 : Int32) (x3 : Int32) (σ : St) (h : ((x2 ≤ x3 → ((x2 ≤ 8 → F x2 σ) ∧ (¬ x2 ≤ 8 → ((¬ ((x2 - 1) - (x2 - 1) / 4 * 4) = 0 → F x2 σ) ∧ (((x2 - 1) - (x2 - 1) / 4 * 4) = 0 → F (-9) σ))))) ∧ (¬ x2 ≤ x3 → (vp_in (x1 + x3) 60 ∧ (ME g d M_X4_goesOn [vI x3, vI (σ (6 + k) ((x1 + x3).toNatClampNeg))] σ (qI (fun r7 σ8 => ((¬ r7 = 0 → VM g (d + 1) M_X4_firstFault (qI F) 2 [(0, vR (2 + k)), (1, vI x1), (2, vI x2), (3, vI (x3 + 1))] [] σ8) ∧ (r7 = 0 → F x3 σ8))))))))) : VM g (d + 1) M_X4_firstFault (qI F) 2 [(0, vR (2 + k)), (1, vI x1), (2, vI x2), (3, vI x3)] [] σ := by
  refine VE_iload_n 3 dX4_firstFault_2 (k := ?_)
  refine VE_iload_n 2 dX4_firstFault_3 (k := ?_)
  refine VE_icmp_ge 30 dX4_firstFault_4 (fun c1 => ?_) (fun c1 => ?_)
  · refine VE_iload_n 2 dX4_firstFault_30 (k := ?_)
    refine VE_bipush 8 dX4_firstFault_31 (k := ?_)
    refine VE_icmp_le 48 dX4_firstFault_33 (fun c2 => ?_) (fun c2 => ?_)
    · refine VE_iconst 0 dX4_firstFault_48 (k := ?_)
      refine VE_istore_n (ls' := [(3, vI 0), (0, vR (2 + k)), (1, vI x1), (2, vI x2)]) dX4_firstFault_49 ?_
      refine VE_iload_n 0 dX4_firstFault_50 (k := ?_)
      refine VE_if_eq 59 dX4_firstFault_51 (fun _ => ?_) (fun c3 => absurd (by decide) c3)
      refine VE_iload_n 3 dX4_firstFault_59 (k := ?_)
      exact VM_iret dX4_firstFault_60 ((h.1 c1).1 c2)
    · refine VE_iload_n 2 dX4_firstFault_36 (k := ?_)
      refine VE_iconst 1 dX4_firstFault_37 (k := ?_)
      refine VE_isub dX4_firstFault_38 ?_
      refine VE_iconst 4 dX4_firstFault_39 (k := ?_)
      refine VE_irem dX4_firstFault_40 (by decide) ?_
      refine VE_if_ne 48 dX4_firstFault_41 (fun c4 => ?_) (fun c4 => ?_)
      · refine VE_iconst 0 dX4_firstFault_48 (k := ?_)
        refine VE_istore_n (ls' := [(3, vI 0), (0, vR (2 + k)), (1, vI x1), (2, vI x2)]) dX4_firstFault_49 ?_
        refine VE_iload_n 0 dX4_firstFault_50 (k := ?_)
        refine VE_if_eq 59 dX4_firstFault_51 (fun _ => ?_) (fun c5 => absurd (by decide) c5)
        refine VE_iload_n 3 dX4_firstFault_59 (k := ?_)
        exact VM_iret dX4_firstFault_60 (((h.1 c1).2 c2).1 c4)
      · refine VE_iconst 1 dX4_firstFault_44 (k := ?_)
        refine VE_goto 49 dX4_firstFault_45 ?_
        refine VE_istore_n (ls' := [(3, vI 1), (0, vR (2 + k)), (1, vI x1), (2, vI x2)]) dX4_firstFault_49 ?_
        refine VE_iload_n 0 dX4_firstFault_50 (k := ?_)
        refine VE_if_eq 59 dX4_firstFault_51 (fun c6 => absurd c6 (by decide)) (fun _ => ?_)
        refine VE_bipush (-9) dX4_firstFault_54 (k := ?_)
        refine VE_goto 60 dX4_firstFault_56 ?_
        exact VM_iret dX4_firstFault_60 (((h.1 c1).2 c2).2 c4)
  · refine VE_iload_n 3 dX4_firstFault_7 (k := ?_)
    refine VE_aload_n 0 dX4_firstFault_8 (k := ?_)
    refine VE_getR (6 + k) dX4_firstFault_9 fl_X4_145 ?_ (sh_f0 hk)
    refine VE_iload_n 1 dX4_firstFault_12 (k := ?_)
    refine VE_iload_n 3 dX4_firstFault_13 (k := ?_)
    refine VE_iadd dX4_firstFault_14 ?_
    refine VE_iald dX4_firstFault_15 (sh_in hk (h.2 c1).1) ?_ (sh_A hk)
    refine VE_cSi [vI x3, vI (σ (6 + k) ((x1 + x3).toNatClampNeg))] dX4_firstFault_16 ml_X4_199 (h.2 c1).2 (fun r7 σ8 h9 => ?_) (rok_D d)
    refine VE_if_ne 24 dX4_firstFault_19 (fun c10 => ?_) (fun c10 => ?_)
    · refine VE_iinc 3 (x3 + 1) (ls' := [(3, vI (x3 + 1)), (0, vR (2 + k)), (1, vI x1), (2, vI x2)]) dX4_firstFault_24 ?_
      refine VE_goto 2 dX4_firstFault_27 ?_
      exact VE_sub [1, 2, 3, 0] rfl (h9.1 c10)
    · refine VE_iload_n 3 dX4_firstFault_22 (k := ?_)
      exact VM_iret dX4_firstFault_23 (h9.2 c10)
theorem dX4_goesOn_0 : decode cX4_goesOn 0 = .ok (.iload_n 0, 1) := by decide +kernel
theorem dX4_goesOn_1 : decode cX4_goesOn 1 = .ok (.ifCond .ne 15, 3) := by decide +kernel
theorem dX4_goesOn_4 : decode cX4_goesOn 4 = .ok (.iload_n 1, 1) := by decide +kernel
theorem dX4_goesOn_5 : decode cX4_goesOn 5 = .ok (.bipush 109, 2) := by decide +kernel
theorem dX4_goesOn_7 : decode cX4_goesOn 7 = .ok (.if_icmp .ne 7, 3) := by decide +kernel
theorem dX4_goesOn_10 : decode cX4_goesOn 10 = .ok (.iconst 1, 1) := by decide +kernel
theorem dX4_goesOn_11 : decode cX4_goesOn 11 = .ok (.goto 4, 3) := by decide +kernel
theorem dX4_goesOn_14 : decode cX4_goesOn 14 = .ok (.iconst 0, 1) := by decide +kernel
theorem dX4_goesOn_15 : decode cX4_goesOn 15 = .ok (.ireturn, 1) := by decide +kernel
theorem dX4_goesOn_16 : decode cX4_goesOn 16 = .ok (.iload_n 0, 1) := by decide +kernel
theorem dX4_goesOn_17 : decode cX4_goesOn 17 = .ok (.bipush 20, 2) := by decide +kernel
theorem dX4_goesOn_19 : decode cX4_goesOn 19 = .ok (.if_icmp .le 5, 3) := by decide +kernel
theorem dX4_goesOn_22 : decode cX4_goesOn 22 = .ok (.iconst 0, 1) := by decide +kernel
theorem dX4_goesOn_23 : decode cX4_goesOn 23 = .ok (.ireturn, 1) := by decide +kernel
theorem dX4_goesOn_24 : decode cX4_goesOn 24 = .ok (.iload_n 0, 1) := by decide +kernel
theorem dX4_goesOn_25 : decode cX4_goesOn 25 = .ok (.iconst 1, 1) := by decide +kernel
theorem dX4_goesOn_26 : decode cX4_goesOn 26 = .ok (.isub, 1) := by decide +kernel
theorem dX4_goesOn_27 : decode cX4_goesOn 27 = .ok (.iconst 4, 1) := by decide +kernel
theorem dX4_goesOn_28 : decode cX4_goesOn 28 = .ok (.irem, 1) := by decide +kernel
theorem dX4_goesOn_29 : decode cX4_goesOn 29 = .ok (.tableswitch 81 0 2 #[27, 39, 63], 27) := by decide +kernel
theorem dX4_goesOn_56 : decode cX4_goesOn 56 = .ok (.iload_n 1, 1) := by decide +kernel
theorem dX4_goesOn_57 : decode cX4_goesOn 57 = .ok (.bipush 59, 2) := by decide +kernel
theorem dX4_goesOn_59 : decode cX4_goesOn 59 = .ok (.if_icmp .ne 7, 3) := by decide +kernel
theorem dX4_goesOn_62 : decode cX4_goesOn 62 = .ok (.iconst 1, 1) := by decide +kernel
theorem dX4_goesOn_63 : decode cX4_goesOn 63 = .ok (.goto 4, 3) := by decide +kernel
theorem dX4_goesOn_66 : decode cX4_goesOn 66 = .ok (.iconst 0, 1) := by decide +kernel
theorem dX4_goesOn_67 : decode cX4_goesOn 67 = .ok (.ireturn, 1) := by decide +kernel
theorem dX4_goesOn_68 : decode cX4_goesOn 68 = .ok (.iload_n 1, 1) := by decide +kernel
theorem dX4_goesOn_69 : decode cX4_goesOn 69 = .ok (.bipush 104, 2) := by decide +kernel
theorem dX4_goesOn_71 : decode cX4_goesOn 71 = .ok (.if_icmp .eq 15, 3) := by decide +kernel
theorem dX4_goesOn_74 : decode cX4_goesOn 74 = .ok (.iload_n 1, 1) := by decide +kernel
theorem dX4_goesOn_75 : decode cX4_goesOn 75 = .ok (.bipush 108, 2) := by decide +kernel
theorem dX4_goesOn_77 : decode cX4_goesOn 77 = .ok (.if_icmp .eq 9, 3) := by decide +kernel
theorem dX4_goesOn_80 : decode cX4_goesOn 80 = .ok (.iload_n 1, 1) := by decide +kernel
theorem dX4_goesOn_81 : decode cX4_goesOn 81 = .ok (.bipush 115, 2) := by decide +kernel
theorem dX4_goesOn_83 : decode cX4_goesOn 83 = .ok (.if_icmp .ne 7, 3) := by decide +kernel
theorem dX4_goesOn_86 : decode cX4_goesOn 86 = .ok (.iconst 1, 1) := by decide +kernel
theorem dX4_goesOn_87 : decode cX4_goesOn 87 = .ok (.goto 4, 3) := by decide +kernel
theorem dX4_goesOn_90 : decode cX4_goesOn 90 = .ok (.iconst 0, 1) := by decide +kernel
theorem dX4_goesOn_91 : decode cX4_goesOn 91 = .ok (.ireturn, 1) := by decide +kernel
theorem dX4_goesOn_92 : decode cX4_goesOn 92 = .ok (.iload_n 1, 1) := by decide +kernel
theorem dX4_goesOn_93 : decode cX4_goesOn 93 = .ok (.bipush 49, 2) := by decide +kernel
theorem dX4_goesOn_95 : decode cX4_goesOn 95 = .ok (.if_icmp .lt 13, 3) := by decide +kernel
theorem dX4_goesOn_98 : decode cX4_goesOn 98 = .ok (.iload_n 1, 1) := by decide +kernel
theorem dX4_goesOn_99 : decode cX4_goesOn 99 = .ok (.bipush 57, 2) := by decide +kernel
theorem dX4_goesOn_101 : decode cX4_goesOn 101 = .ok (.if_icmp .gt 7, 3) := by decide +kernel
theorem dX4_goesOn_104 : decode cX4_goesOn 104 = .ok (.iconst 1, 1) := by decide +kernel
theorem dX4_goesOn_105 : decode cX4_goesOn 105 = .ok (.goto 4, 3) := by decide +kernel
theorem dX4_goesOn_108 : decode cX4_goesOn 108 = .ok (.iconst 0, 1) := by decide +kernel
theorem dX4_goesOn_109 : decode cX4_goesOn 109 = .ok (.ireturn, 1) := by decide +kernel
theorem dX4_goesOn_110 : decode cX4_goesOn 110 = .ok (.iload_n 1, 1) := by decide +kernel
theorem dX4_goesOn_111 : decode cX4_goesOn 111 = .ok (.bipush 48, 2) := by decide +kernel
theorem dX4_goesOn_113 : decode cX4_goesOn 113 = .ok (.if_icmp .lt 13, 3) := by decide +kernel
theorem dX4_goesOn_116 : decode cX4_goesOn 116 = .ok (.iload_n 1, 1) := by decide +kernel
theorem dX4_goesOn_117 : decode cX4_goesOn 117 = .ok (.bipush 53, 2) := by decide +kernel
theorem dX4_goesOn_119 : decode cX4_goesOn 119 = .ok (.if_icmp .gt 7, 3) := by decide +kernel
theorem dX4_goesOn_122 : decode cX4_goesOn 122 = .ok (.iconst 1, 1) := by decide +kernel
theorem dX4_goesOn_123 : decode cX4_goesOn 123 = .ok (.goto 4, 3) := by decide +kernel
theorem dX4_goesOn_126 : decode cX4_goesOn 126 = .ok (.iconst 0, 1) := by decide +kernel
theorem dX4_goesOn_127 : decode cX4_goesOn 127 = .ok (.ireturn, 1) := by decide +kernel
set_option maxRecDepth 20000 in
theorem S_X4_goesOn_0 {g : GG} {d : Nat} {F : Int32 → St → Prop} (a1 : Int32) (a2 : Int32) (σ : St) (h : ((¬ a1 = 0 → ((a1 ≤ 20 → ((((a1 - 1) - (a1 - 1) / 4 * 4) = 0 → ((¬ a2 = 59 → F 0 σ) ∧ (a2 = 59 → F 1 σ))) ∧ (¬ ((a1 - 1) - (a1 - 1) / 4 * 4) = 0 → ((((a1 - 1) - (a1 - 1) / 4 * 4) = 1 → ((a2 = 104 → F 1 σ) ∧ (¬ a2 = 104 → ((a2 = 108 → F 1 σ) ∧ (¬ a2 = 108 → ((¬ a2 = 115 → F 0 σ) ∧ (a2 = 115 → F 1 σ))))))) ∧ (¬ ((a1 - 1) - (a1 - 1) / 4 * 4) = 1 → ((((a1 - 1) - (a1 - 1) / 4 * 4) = 2 → ((a2 < 49 → F 0 σ) ∧ (¬ a2 < 49 → ((57 < a2 → F 0 σ) ∧ (¬ 57 < a2 → F 1 σ))))) ∧ (¬ ((a1 - 1) - (a1 - 1) / 4 * 4) = 2 → ((a2 < 48 → F 0 σ) ∧ (¬ a2 < 48 → ((53 < a2 → F 0 σ) ∧ (¬ 53 < a2 → F 1 σ))))))))))) ∧ (¬ a1 ≤ 20 → F 0 σ))) ∧ (a1 = 0 → ((¬ a2 = 109 → F 0 σ) ∧ (a2 = 109 → F 1 σ))))) : VM g d M_X4_goesOn (qI F) 0 [(0, vI a1), (1, vI a2)] [] σ := by
  refine VE_iload_n 0 dX4_goesOn_0 (k := ?_)
  refine VE_if_ne 16 dX4_goesOn_1 (fun c1 => ?_) (fun c1 => ?_)
  · refine VE_iload_n 0 dX4_goesOn_16 (k := ?_)
    refine VE_bipush 20 dX4_goesOn_17 (k := ?_)
    refine VE_icmp_le 24 dX4_goesOn_19 (fun c2 => ?_) (fun c2 => ?_)
    · refine VE_iload_n 0 dX4_goesOn_24 (k := ?_)
      refine VE_iconst 1 dX4_goesOn_25 (k := ?_)
      refine VE_isub dX4_goesOn_26 ?_
      refine VE_iconst 4 dX4_goesOn_27 (k := ?_)
      refine VE_irem dX4_goesOn_28 (by decide) ?_
      by_cases c3 : ((a1 - 1) - (a1 - 1) / 4 * 4) = 0
      · refine VE_tableIn 56 dX4_goesOn_29 (by rw [c3]; decide) (by rw [c3]; decide) (by rw [c3]; rfl) ?_
        refine VE_iload_n 1 dX4_goesOn_56 (k := ?_)
        refine VE_bipush 59 dX4_goesOn_57 (k := ?_)
        refine VE_icmp_ne 66 dX4_goesOn_59 (fun c6 => ?_) (fun c6 => ?_)
        · refine VE_iconst 0 dX4_goesOn_66 (k := ?_)
          exact VM_zret dX4_goesOn_67 ((((h.1 c1).1 c2).1 c3).1 c6) (by decide)
        · refine VE_iconst 1 dX4_goesOn_62 (k := ?_)
          refine VE_goto 67 dX4_goesOn_63 ?_
          exact VM_zret dX4_goesOn_67 ((((h.1 c1).1 c2).1 c3).2 c6) (by decide)
      · by_cases c4 : ((a1 - 1) - (a1 - 1) / 4 * 4) = 1
        · refine VE_tableIn 68 dX4_goesOn_29 (by rw [c4]; decide) (by rw [c4]; decide) (by rw [c4]; rfl) ?_
          refine VE_iload_n 1 dX4_goesOn_68 (k := ?_)
          refine VE_bipush 104 dX4_goesOn_69 (k := ?_)
          refine VE_icmp_eq 86 dX4_goesOn_71 (fun c7 => ?_) (fun c7 => ?_)
          · refine VE_iconst 1 dX4_goesOn_86 (k := ?_)
            refine VE_goto 91 dX4_goesOn_87 ?_
            exact VM_zret dX4_goesOn_91 (((((h.1 c1).1 c2).2 c3).1 c4).1 c7) (by decide)
          · refine VE_iload_n 1 dX4_goesOn_74 (k := ?_)
            refine VE_bipush 108 dX4_goesOn_75 (k := ?_)
            refine VE_icmp_eq 86 dX4_goesOn_77 (fun c8 => ?_) (fun c8 => ?_)
            · refine VE_iconst 1 dX4_goesOn_86 (k := ?_)
              refine VE_goto 91 dX4_goesOn_87 ?_
              exact VM_zret dX4_goesOn_91 ((((((h.1 c1).1 c2).2 c3).1 c4).2 c7).1 c8) (by decide)
            · refine VE_iload_n 1 dX4_goesOn_80 (k := ?_)
              refine VE_bipush 115 dX4_goesOn_81 (k := ?_)
              refine VE_icmp_ne 90 dX4_goesOn_83 (fun c9 => ?_) (fun c9 => ?_)
              · refine VE_iconst 0 dX4_goesOn_90 (k := ?_)
                exact VM_zret dX4_goesOn_91 (((((((h.1 c1).1 c2).2 c3).1 c4).2 c7).2 c8).1 c9) (by decide)
              · refine VE_iconst 1 dX4_goesOn_86 (k := ?_)
                refine VE_goto 91 dX4_goesOn_87 ?_
                exact VM_zret dX4_goesOn_91 (((((((h.1 c1).1 c2).2 c3).1 c4).2 c7).2 c8).2 c9) (by decide)
        · by_cases c5 : ((a1 - 1) - (a1 - 1) / 4 * 4) = 2
          · refine VE_tableIn 92 dX4_goesOn_29 (by rw [c5]; decide) (by rw [c5]; decide) (by rw [c5]; rfl) ?_
            refine VE_iload_n 1 dX4_goesOn_92 (k := ?_)
            refine VE_bipush 49 dX4_goesOn_93 (k := ?_)
            refine VE_icmp_lt 108 dX4_goesOn_95 (fun c10 => ?_) (fun c10 => ?_)
            · refine VE_iconst 0 dX4_goesOn_108 (k := ?_)
              exact VM_zret dX4_goesOn_109 ((((((h.1 c1).1 c2).2 c3).2 c4).1 c5).1 c10) (by decide)
            · refine VE_iload_n 1 dX4_goesOn_98 (k := ?_)
              refine VE_bipush 57 dX4_goesOn_99 (k := ?_)
              refine VE_icmp_gt 108 dX4_goesOn_101 (fun c11 => ?_) (fun c11 => ?_)
              · refine VE_iconst 0 dX4_goesOn_108 (k := ?_)
                exact VM_zret dX4_goesOn_109 (((((((h.1 c1).1 c2).2 c3).2 c4).1 c5).2 c10).1 c11) (by decide)
              · refine VE_iconst 1 dX4_goesOn_104 (k := ?_)
                refine VE_goto 109 dX4_goesOn_105 ?_
                exact VM_zret dX4_goesOn_109 (((((((h.1 c1).1 c2).2 c3).2 c4).1 c5).2 c10).2 c11) (by decide)
          · refine VE_tableOut 110 dX4_goesOn_29 (by have e0 : ¬ ((a1 - 1) - (a1 - 1) / 4 * 4).toInt = 0 := i32_ne c3; have e1 : ¬ ((a1 - 1) - (a1 - 1) / 4 * 4).toInt = 1 := i32_ne c4; have e2 : ¬ ((a1 - 1) - (a1 - 1) / 4 * 4).toInt = 2 := i32_ne c5; omega) ?_
            refine VE_iload_n 1 dX4_goesOn_110 (k := ?_)
            refine VE_bipush 48 dX4_goesOn_111 (k := ?_)
            refine VE_icmp_lt 126 dX4_goesOn_113 (fun c12 => ?_) (fun c12 => ?_)
            · refine VE_iconst 0 dX4_goesOn_126 (k := ?_)
              exact VM_zret dX4_goesOn_127 ((((((h.1 c1).1 c2).2 c3).2 c4).2 c5).1 c12) (by decide)
            · refine VE_iload_n 1 dX4_goesOn_116 (k := ?_)
              refine VE_bipush 53 dX4_goesOn_117 (k := ?_)
              refine VE_icmp_gt 126 dX4_goesOn_119 (fun c13 => ?_) (fun c13 => ?_)
              · refine VE_iconst 0 dX4_goesOn_126 (k := ?_)
                exact VM_zret dX4_goesOn_127 (((((((h.1 c1).1 c2).2 c3).2 c4).2 c5).2 c12).1 c13) (by decide)
              · refine VE_iconst 1 dX4_goesOn_122 (k := ?_)
                refine VE_goto 127 dX4_goesOn_123 ?_
                exact VM_zret dX4_goesOn_127 (((((((h.1 c1).1 c2).2 c3).2 c4).2 c5).2 c12).2 c13) (by decide)
    · refine VE_iconst 0 dX4_goesOn_22 (k := ?_)
      exact VM_zret dX4_goesOn_23 ((h.1 c1).2 c2) (by decide)
  · refine VE_iload_n 1 dX4_goesOn_4 (k := ?_)
    refine VE_bipush 109 dX4_goesOn_5 (k := ?_)
    refine VE_icmp_ne 14 dX4_goesOn_7 (fun c14 => ?_) (fun c14 => ?_)
    · refine VE_iconst 0 dX4_goesOn_14 (k := ?_)
      exact VM_zret dX4_goesOn_15 ((h.2 c1).1 c14) (by decide)
    · refine VE_iconst 1 dX4_goesOn_10 (k := ?_)
      refine VE_goto 15 dX4_goesOn_11 ?_
      exact VM_zret dX4_goesOn_15 ((h.2 c1).2 c14) (by decide)
theorem dX4_kindOfLetter_0 : decode cX4_kindOfLetter 0 = .ok (.iload_n 0, 1) := by decide +kernel
theorem dX4_kindOfLetter_1 : decode cX4_kindOfLetter 1 = .ok (.bipush 115, 2) := by decide +kernel
theorem dX4_kindOfLetter_3 : decode cX4_kindOfLetter 3 = .ok (.if_icmp .ne 5, 3) := by decide +kernel
theorem dX4_kindOfLetter_6 : decode cX4_kindOfLetter 6 = .ok (.iconst 2, 1) := by decide +kernel
theorem dX4_kindOfLetter_7 : decode cX4_kindOfLetter 7 = .ok (.ireturn, 1) := by decide +kernel
theorem dX4_kindOfLetter_8 : decode cX4_kindOfLetter 8 = .ok (.iload_n 0, 1) := by decide +kernel
theorem dX4_kindOfLetter_9 : decode cX4_kindOfLetter 9 = .ok (.bipush 108, 2) := by decide +kernel
theorem dX4_kindOfLetter_11 : decode cX4_kindOfLetter 11 = .ok (.if_icmp .ne 7, 3) := by decide +kernel
theorem dX4_kindOfLetter_14 : decode cX4_kindOfLetter 14 = .ok (.iconst 1, 1) := by decide +kernel
theorem dX4_kindOfLetter_15 : decode cX4_kindOfLetter 15 = .ok (.goto 4, 3) := by decide +kernel
theorem dX4_kindOfLetter_18 : decode cX4_kindOfLetter 18 = .ok (.iconst 0, 1) := by decide +kernel
theorem dX4_kindOfLetter_19 : decode cX4_kindOfLetter 19 = .ok (.ireturn, 1) := by decide +kernel
set_option maxRecDepth 20000 in
theorem S_X4_kindOfLetter_0 {g : GG} {d : Nat} {F : Int32 → St → Prop} (a1 : Int32) (σ : St) (h : ((¬ a1 = 115 → ((¬ a1 = 108 → F 0 σ) ∧ (a1 = 108 → F 1 σ))) ∧ (a1 = 115 → F 2 σ))) : VM g d M_X4_kindOfLetter (qI F) 0 [(0, vI a1)] [] σ := by
  refine VE_iload_n 0 dX4_kindOfLetter_0 (k := ?_)
  refine VE_bipush 115 dX4_kindOfLetter_1 (k := ?_)
  refine VE_icmp_ne 8 dX4_kindOfLetter_3 (fun c1 => ?_) (fun c1 => ?_)
  · refine VE_iload_n 0 dX4_kindOfLetter_8 (k := ?_)
    refine VE_bipush 108 dX4_kindOfLetter_9 (k := ?_)
    refine VE_icmp_ne 18 dX4_kindOfLetter_11 (fun c2 => ?_) (fun c2 => ?_)
    · refine VE_iconst 0 dX4_kindOfLetter_18 (k := ?_)
      exact VM_iret dX4_kindOfLetter_19 ((h.1 c1).1 c2)
    · refine VE_iconst 1 dX4_kindOfLetter_14 (k := ?_)
      refine VE_goto 19 dX4_kindOfLetter_15 ?_
      exact VM_iret dX4_kindOfLetter_19 ((h.1 c1).2 c2)
  · refine VE_iconst 2 dX4_kindOfLetter_6 (k := ?_)
    exact VM_iret dX4_kindOfLetter_7 (h.2 c1)
theorem dX4_lasting_0 : decode cX4_lasting 0 = .ok (.iload_n 1, 1) := by decide +kernel
theorem dX4_lasting_1 : decode cX4_lasting 1 = .ok (.iconst 1, 1) := by decide +kernel
theorem dX4_lasting_2 : decode cX4_lasting 2 = .ok (.iadd, 1) := by decide +kernel
theorem dX4_lasting_3 : decode cX4_lasting 3 = .ok (.istore_n 2, 1) := by decide +kernel
theorem dX4_lasting_4 : decode cX4_lasting 4 = .ok (.iload_n 0, 1) := by decide +kernel
theorem dX4_lasting_5 : decode cX4_lasting 5 = .ok (.iconst 2, 1) := by decide +kernel
theorem dX4_lasting_6 : decode cX4_lasting 6 = .ok (.if_icmp .ne 7, 3) := by decide +kernel
theorem dX4_lasting_9 : decode cX4_lasting 9 = .ok (.iconst 2, 1) := by decide +kernel
theorem dX4_lasting_10 : decode cX4_lasting 10 = .ok (.iload_n 2, 1) := by decide +kernel
theorem dX4_lasting_11 : decode cX4_lasting 11 = .ok (.imul, 1) := by decide +kernel
theorem dX4_lasting_12 : decode cX4_lasting 12 = .ok (.ireturn, 1) := by decide +kernel
theorem dX4_lasting_13 : decode cX4_lasting 13 = .ok (.iload_n 0, 1) := by decide +kernel
theorem dX4_lasting_14 : decode cX4_lasting 14 = .ok (.iconst 1, 1) := by decide +kernel
theorem dX4_lasting_15 : decode cX4_lasting 15 = .ok (.if_icmp .ne 7, 3) := by decide +kernel
theorem dX4_lasting_18 : decode cX4_lasting 18 = .ok (.iload_n 2, 1) := by decide +kernel
theorem dX4_lasting_19 : decode cX4_lasting 19 = .ok (.goto 4, 3) := by decide +kernel
theorem dX4_lasting_22 : decode cX4_lasting 22 = .ok (.iload_n 1, 1) := by decide +kernel
theorem dX4_lasting_23 : decode cX4_lasting 23 = .ok (.ireturn, 1) := by decide +kernel
set_option maxRecDepth 20000 in
theorem S_X4_lasting_0 {g : GG} {d : Nat} {F : Int32 → St → Prop} (a1 : Int32) (a2 : Int32) (σ : St) (h : ((¬ a1 = 2 → ((¬ a1 = 1 → F a2 σ) ∧ (a1 = 1 → F (a2 + 1) σ))) ∧ (a1 = 2 → F (2 * (a2 + 1)) σ))) : VM g d M_X4_lasting (qI F) 0 [(0, vI a1), (1, vI a2)] [] σ := by
  refine VE_iload_n 1 dX4_lasting_0 (k := ?_)
  refine VE_iconst 1 dX4_lasting_1 (k := ?_)
  refine VE_iadd dX4_lasting_2 ?_
  refine VE_istore_n (ls' := [(2, vI (a2 + 1)), (0, vI a1), (1, vI a2)]) dX4_lasting_3 ?_
  refine VE_iload_n 1 dX4_lasting_4 (k := ?_)
  refine VE_iconst 2 dX4_lasting_5 (k := ?_)
  refine VE_icmp_ne 13 dX4_lasting_6 (fun c1 => ?_) (fun c1 => ?_)
  · refine VE_iload_n 1 dX4_lasting_13 (k := ?_)
    refine VE_iconst 1 dX4_lasting_14 (k := ?_)
    refine VE_icmp_ne 22 dX4_lasting_15 (fun c2 => ?_) (fun c2 => ?_)
    · refine VE_iload_n 2 dX4_lasting_22 (k := ?_)
      exact VM_iret dX4_lasting_23 ((h.1 c1).1 c2)
    · refine VE_iload_n 0 dX4_lasting_18 (k := ?_)
      refine VE_goto 23 dX4_lasting_19 ?_
      exact VM_iret dX4_lasting_23 ((h.1 c1).2 c2)
  · refine VE_iconst 2 dX4_lasting_9 (k := ?_)
    refine VE_iload_n 0 dX4_lasting_10 (k := ?_)
    refine VE_imul dX4_lasting_11 ?_
    exact VM_iret dX4_lasting_12 (h.2 c1)
theorem dX4_takeRow_0 : decode cX4_takeRow 0 = .ok (.iconst 0, 1) := by decide +kernel
theorem dX4_takeRow_1 : decode cX4_takeRow 1 = .ok (.istore 4, 2) := by decide +kernel
theorem dX4_takeRow_3 : decode cX4_takeRow 3 = .ok (.iload 4, 2) := by decide +kernel
theorem dX4_takeRow_5 : decode cX4_takeRow 5 = .ok (.iload_n 3, 1) := by decide +kernel
theorem dX4_takeRow_6 : decode cX4_takeRow 6 = .ok (.if_icmp .ge 43, 3) := by decide +kernel
theorem dX4_takeRow_9 : decode cX4_takeRow 9 = .ok (.aload_n 1, 1) := by decide +kernel
theorem dX4_takeRow_10 : decode cX4_takeRow 10 = .ok (.getfield 145, 3) := by decide +kernel
theorem dX4_takeRow_13 : decode cX4_takeRow 13 = .ok (.iload_n 2, 1) := by decide +kernel
theorem dX4_takeRow_14 : decode cX4_takeRow 14 = .ok (.iload 4, 2) := by decide +kernel
theorem dX4_takeRow_16 : decode cX4_takeRow 16 = .ok (.iadd, 1) := by decide +kernel
theorem dX4_takeRow_17 : decode cX4_takeRow 17 = .ok (.iaload, 1) := by decide +kernel
theorem dX4_takeRow_18 : decode cX4_takeRow 18 = .ok (.istore 5, 2) := by decide +kernel
theorem dX4_takeRow_20 : decode cX4_takeRow 20 = .ok (.aload_n 0, 1) := by decide +kernel
theorem dX4_takeRow_21 : decode cX4_takeRow 21 = .ok (.getfield 21, 3) := by decide +kernel
theorem dX4_takeRow_24 : decode cX4_takeRow 24 = .ok (.iload 5, 2) := by decide +kernel
theorem dX4_takeRow_26 : decode cX4_takeRow 26 = .ok (.invokevirtual 64, 3) := by decide +kernel
theorem dX4_takeRow_29 : decode cX4_takeRow 29 = .ok (.ifCond .ne 5, 3) := by decide +kernel
theorem dX4_takeRow_32 : decode cX4_takeRow 32 = .ok (.iconst 0, 1) := by decide +kernel
theorem dX4_takeRow_33 : decode cX4_takeRow 33 = .ok (.ireturn, 1) := by decide +kernel
theorem dX4_takeRow_34 : decode cX4_takeRow 34 = .ok (.aload_n 0, 1) := by decide +kernel
theorem dX4_takeRow_35 : decode cX4_takeRow 35 = .ok (.getfield 39, 3) := by decide +kernel
theorem dX4_takeRow_38 : decode cX4_takeRow 38 = .ok (.iload 4, 2) := by decide +kernel
theorem dX4_takeRow_40 : decode cX4_takeRow 40 = .ok (.iload 5, 2) := by decide +kernel
theorem dX4_takeRow_42 : decode cX4_takeRow 42 = .ok (.iastore, 1) := by decide +kernel
theorem dX4_takeRow_43 : decode cX4_takeRow 43 = .ok (.iinc 4 1, 3) := by decide +kernel
theorem dX4_takeRow_46 : decode cX4_takeRow 46 = .ok (.goto (-43), 3) := by decide +kernel
theorem dX4_takeRow_49 : decode cX4_takeRow 49 = .ok (.aload_n 0, 1) := by decide +kernel
theorem dX4_takeRow_50 : decode cX4_takeRow 50 = .ok (.iload_n 3, 1) := by decide +kernel
theorem dX4_takeRow_51 : decode cX4_takeRow 51 = .ok (.putfield 202, 3) := by decide +kernel
theorem dX4_takeRow_54 : decode cX4_takeRow 54 = .ok (.iconst 1, 1) := by decide +kernel
theorem dX4_takeRow_55 : decode cX4_takeRow 55 = .ok (.ireturn, 1) := by decide +kernel
set_option maxRecDepth 20000 in
theorem S_X4_takeRow_0 {g : GG} {d : Nat} {F : Int32 → St → Prop} {k : Nat} (hk : k < 4) (a2 : Int32) (a3 : Int32) (σ : St) (h : VM g (d + 1) M_X4_takeRow (qI F) 3 [(0, vR 0), (1, vR (2 + k)), (2, vI a2), (3, vI a3), (4, vI 0)] [] σ) : VM g (d + 1) M_X4_takeRow (qI F) 0 [(0, vR 0), (1, vR (2 + k)), (2, vI a2), (3, vI a3)] [] σ := by
  refine VE_iconst 0 dX4_takeRow_0 (k := ?_)
  refine VE_istore (ls' := [(4, vI 0), (0, vR 0), (1, vR (2 + k)), (2, vI a2), (3, vI a3)]) dX4_takeRow_1 ?_
  exact VE_sub [1, 2, 3, 4, 0] rfl h
set_option maxRecDepth 20000 in
theorem S_X4_takeRow_3 {g : GG} {d : Nat} {F : Int32 → St → Prop} {k : Nat} (hk : k < 4) (x2 : Int32) (x3 : Int32) (x4 : Int32) (σ : St) (h : ((x3 ≤ x4 → F 1 (sU σ 0 5 x3)) ∧ (¬ x3 ≤ x4 → (vp_in (x2 + x4) 60 ∧ (ME g d M_X0_has [vR 10, vI (σ (6 + k) ((x2 + x4).toNatClampNeg))] σ (qI (fun r2 σ3 => ((¬ r2 = 0 → (vp_in x4 20 ∧ VM g (d + 1) M_X4_takeRow (qI F) 3 [(0, vR 0), (1, vR (2 + k)), (2, vI x2), (3, vI x3), (4, vI (x4 + 1))] [] (sU σ3 22 x4.toNatClampNeg (σ (6 + k) ((x2 + x4).toNatClampNeg))))) ∧ (r2 = 0 → F 0 σ3))))))))) : VM g (d + 1) M_X4_takeRow (qI F) 3 [(0, vR 0), (1, vR (2 + k)), (2, vI x2), (3, vI x3), (4, vI x4)] [] σ := by
  refine VE_iload 4 dX4_takeRow_3 (k := ?_)
  refine VE_iload_n 3 dX4_takeRow_5 (k := ?_)
  refine VE_icmp_ge 49 dX4_takeRow_6 (fun c1 => ?_) (fun c1 => ?_)
  · refine VE_aload_n 0 dX4_takeRow_49 (k := ?_)
    refine VE_iload_n 3 dX4_takeRow_50 (k := ?_)
    refine VE_put dX4_takeRow_51 fl_X4_202 ?_
    refine VE_iconst 1 dX4_takeRow_54 (k := ?_)
    exact VM_zret dX4_takeRow_55 (h.1 c1) (by decide)
  · refine VE_aload_n 1 dX4_takeRow_9 (k := ?_)
    refine VE_getR (6 + k) dX4_takeRow_10 fl_X4_145 ?_ (sh_f0 hk)
    refine VE_iload_n 2 dX4_takeRow_13 (k := ?_)
    refine VE_iload 4 dX4_takeRow_14 (k := ?_)
    refine VE_iadd dX4_takeRow_16 ?_
    refine VE_iald dX4_takeRow_17 (sh_in hk (h.2 c1).1) ?_ (sh_A hk)
    refine VE_istore (ls' := [(5, vI (σ (6 + k) ((x2 + x4).toNatClampNeg))), (0, vR 0), (1, vR (2 + k)), (2, vI x2), (3, vI x3), (4, vI x4)]) dX4_takeRow_18 ?_
    refine VE_aload_n 1 dX4_takeRow_20 (k := ?_)
    refine VE_getR 10 dX4_takeRow_21 fl_X4_21 ?_
    refine VE_iload 0 dX4_takeRow_24 (k := ?_)
    refine VE_cVi [vI (σ (6 + k) ((x2 + x4).toNatClampNeg))] dX4_takeRow_26 ml_X4_64 (h.2 c1).2 (fun r2 σ3 h4 => ?_) (rok_D d)
    refine VE_if_ne 34 dX4_takeRow_29 (fun c5 => ?_) (fun c5 => ?_)
    · refine VE_aload_n 1 dX4_takeRow_34 (k := ?_)
      refine VE_getR 22 dX4_takeRow_35 fl_X4_39 ?_
      refine VE_iload 5 dX4_takeRow_38 (k := ?_)
      refine VE_iload 0 dX4_takeRow_40 (k := ?_)
      refine VE_iast dX4_takeRow_42 (h4.1 c5).1 ?_
      refine VE_iinc 5 (x4 + 1) (ls' := [(4, vI (x4 + 1)), (5, vI (σ (6 + k) ((x2 + x4).toNatClampNeg))), (0, vR 0), (1, vR (2 + k)), (2, vI x2), (3, vI x3)]) dX4_takeRow_43 ?_
      refine VE_goto 3 dX4_takeRow_46 ?_
      exact VE_sub [2, 3, 4, 5, 0] rfl (h4.1 c5).2
    · refine VE_iconst 0 dX4_takeRow_32 (k := ?_)
      exact VM_zret dX4_takeRow_33 (h4.2 c5) (by decide)
theorem dX4_firstWrong_0 : decode cX4_firstWrong 0 = .ok (.aload_n 0, 1) := by decide +kernel
theorem dX4_firstWrong_1 : decode cX4_firstWrong 1 = .ok (.getfield 28, 3) := by decide +kernel
theorem dX4_firstWrong_4 : decode cX4_firstWrong 4 = .ok (.aload_n 0, 1) := by decide +kernel
theorem dX4_firstWrong_5 : decode cX4_firstWrong 5 = .ok (.getfield 21, 3) := by decide +kernel
theorem dX4_firstWrong_8 : decode cX4_firstWrong 8 = .ok (.invokevirtual 102, 3) := by decide +kernel
theorem dX4_firstWrong_11 : decode cX4_firstWrong 11 = .ok (.iconst 0, 1) := by decide +kernel
theorem dX4_firstWrong_12 : decode cX4_firstWrong 12 = .ok (.istore_n 1, 1) := by decide +kernel
theorem dX4_firstWrong_13 : decode cX4_firstWrong 13 = .ok (.iload_n 1, 1) := by decide +kernel
theorem dX4_firstWrong_14 : decode cX4_firstWrong 14 = .ok (.aload_n 0, 1) := by decide +kernel
theorem dX4_firstWrong_15 : decode cX4_firstWrong 15 = .ok (.getfield 202, 3) := by decide +kernel
theorem dX4_firstWrong_18 : decode cX4_firstWrong 18 = .ok (.if_icmp .ge 27, 3) := by decide +kernel
theorem dX4_firstWrong_21 : decode cX4_firstWrong 21 = .ok (.aload_n 0, 1) := by decide +kernel
theorem dX4_firstWrong_22 : decode cX4_firstWrong 22 = .ok (.getfield 28, 3) := by decide +kernel
theorem dX4_firstWrong_25 : decode cX4_firstWrong 25 = .ok (.aload_n 0, 1) := by decide +kernel
theorem dX4_firstWrong_26 : decode cX4_firstWrong 26 = .ok (.getfield 39, 3) := by decide +kernel
theorem dX4_firstWrong_29 : decode cX4_firstWrong 29 = .ok (.iload_n 1, 1) := by decide +kernel
theorem dX4_firstWrong_30 : decode cX4_firstWrong 30 = .ok (.iaload, 1) := by decide +kernel
theorem dX4_firstWrong_31 : decode cX4_firstWrong 31 = .ok (.invokevirtual 205, 3) := by decide +kernel
theorem dX4_firstWrong_34 : decode cX4_firstWrong 34 = .ok (.ifCond .ne 5, 3) := by decide +kernel
theorem dX4_firstWrong_37 : decode cX4_firstWrong 37 = .ok (.iload_n 1, 1) := by decide +kernel
theorem dX4_firstWrong_38 : decode cX4_firstWrong 38 = .ok (.ireturn, 1) := by decide +kernel
theorem dX4_firstWrong_39 : decode cX4_firstWrong 39 = .ok (.iinc 1 1, 3) := by decide +kernel
theorem dX4_firstWrong_42 : decode cX4_firstWrong 42 = .ok (.goto (-29), 3) := by decide +kernel
theorem dX4_firstWrong_45 : decode cX4_firstWrong 45 = .ok (.bipush (-9), 2) := by decide +kernel
theorem dX4_firstWrong_47 : decode cX4_firstWrong 47 = .ok (.ireturn, 1) := by decide +kernel
set_option maxRecDepth 20000 in
theorem S_X4_firstWrong_0 {g : GG} {d : Nat} {F : Int32 → St → Prop}  (σ : St) (h : (ME g d M_X1_open [vR 14, vR 10] σ (qV (fun σ2 => VM g (d + 1) M_X4_firstWrong (qI F) 13 [(0, vR 0), (1, vI 0)] [] σ2)))) : VM g (d + 1) M_X4_firstWrong (qI F) 0 [(0, vR 0)] [] σ := by
  refine VE_aload_n 0 dX4_firstWrong_0 (k := ?_)
  refine VE_getR 14 dX4_firstWrong_1 fl_X4_28 ?_
  refine VE_aload_n 0 dX4_firstWrong_4 (k := ?_)
  refine VE_getR 10 dX4_firstWrong_5 fl_X4_21 ?_
  refine VE_cVv [vR 10] dX4_firstWrong_8 ml_X4_102 h (fun σ2 h3 => ?_) (rok_D d)
  refine VE_iconst 0 dX4_firstWrong_11 (k := ?_)
  refine VE_istore_n (ls' := [(1, vI 0), (0, vR 0)]) dX4_firstWrong_12 ?_
  exact VE_sub [1, 0] rfl h3
set_option maxRecDepth 20000 in
theorem S_X4_firstWrong_13 {g : GG} {d : Nat} {F : Int32 → St → Prop} (x1 : Int32) (σ : St) (h : (((σ 0 5) ≤ x1 → F (-9) σ) ∧ (¬ (σ 0 5) ≤ x1 → (vp_in x1 20 ∧ (ME g d M_X1_receives [vR 14, vI (σ 22 x1.toNatClampNeg)] σ (qI (fun r2 σ3 => ((¬ r2 = 0 → VM g (d + 1) M_X4_firstWrong (qI F) 13 [(0, vR 0), (1, vI (x1 + 1))] [] σ3) ∧ (r2 = 0 → F x1 σ3))))))))) : VM g (d + 1) M_X4_firstWrong (qI F) 13 [(0, vR 0), (1, vI x1)] [] σ := by
  refine VE_iload_n 1 dX4_firstWrong_13 (k := ?_)
  refine VE_aload_n 0 dX4_firstWrong_14 (k := ?_)
  refine VE_getI dX4_firstWrong_15 fl_X4_202 ?_
  refine VE_icmp_ge 45 dX4_firstWrong_18 (fun c1 => ?_) (fun c1 => ?_)
  · refine VE_bipush (-9) dX4_firstWrong_45 (k := ?_)
    exact VM_iret dX4_firstWrong_47 (h.1 c1)
  · refine VE_aload_n 0 dX4_firstWrong_21 (k := ?_)
    refine VE_getR 14 dX4_firstWrong_22 fl_X4_28 ?_
    refine VE_aload_n 0 dX4_firstWrong_25 (k := ?_)
    refine VE_getR 22 dX4_firstWrong_26 fl_X4_39 ?_
    refine VE_iload_n 1 dX4_firstWrong_29 (k := ?_)
    refine VE_iald dX4_firstWrong_30 (h.2 c1).1 ?_
    refine VE_cVi [vI (σ 22 x1.toNatClampNeg)] dX4_firstWrong_31 ml_X4_205 (h.2 c1).2 (fun r2 σ3 h4 => ?_) (rok_D d)
    refine VE_if_ne 39 dX4_firstWrong_34 (fun c5 => ?_) (fun c5 => ?_)
    · refine VE_iinc 1 (x1 + 1) (ls' := [(1, vI (x1 + 1)), (0, vR 0)]) dX4_firstWrong_39 ?_
      refine VE_goto 13 dX4_firstWrong_42 ?_
      exact VE_sub [1, 0] rfl (h4.1 c5)
    · refine VE_iload_n 1 dX4_firstWrong_37 (k := ?_)
      exact VM_iret dX4_firstWrong_38 (h4.2 c5)
theorem dX4_answerOfHall_0 : decode cX4_answerOfHall 0 = .ok (.iload_n 1, 1) := by decide +kernel
theorem dX4_answerOfHall_1 : decode cX4_answerOfHall 1 = .ok (.tableswitch 55 0 3 #[31, 55, 39, 47], 31) := by decide +kernel
theorem dX4_answerOfHall_32 : decode cX4_answerOfHall 32 = .ok (.aload_n 0, 1) := by decide +kernel
theorem dX4_answerOfHall_33 : decode cX4_answerOfHall 33 = .ok (.getfield 28, 3) := by decide +kernel
theorem dX4_answerOfHall_36 : decode cX4_answerOfHall 36 = .ok (.invokevirtual 208, 3) := by decide +kernel
theorem dX4_answerOfHall_39 : decode cX4_answerOfHall 39 = .ok (.ireturn, 1) := by decide +kernel
theorem dX4_answerOfHall_40 : decode cX4_answerOfHall 40 = .ok (.aload_n 0, 1) := by decide +kernel
theorem dX4_answerOfHall_41 : decode cX4_answerOfHall 41 = .ok (.getfield 28, 3) := by decide +kernel
theorem dX4_answerOfHall_44 : decode cX4_answerOfHall 44 = .ok (.invokevirtual 211, 3) := by decide +kernel
theorem dX4_answerOfHall_47 : decode cX4_answerOfHall 47 = .ok (.ireturn, 1) := by decide +kernel
theorem dX4_answerOfHall_48 : decode cX4_answerOfHall 48 = .ok (.aload_n 0, 1) := by decide +kernel
theorem dX4_answerOfHall_49 : decode cX4_answerOfHall 49 = .ok (.getfield 28, 3) := by decide +kernel
theorem dX4_answerOfHall_52 : decode cX4_answerOfHall 52 = .ok (.getfield 214, 3) := by decide +kernel
theorem dX4_answerOfHall_55 : decode cX4_answerOfHall 55 = .ok (.ireturn, 1) := by decide +kernel
theorem dX4_answerOfHall_56 : decode cX4_answerOfHall 56 = .ok (.aload_n 0, 1) := by decide +kernel
theorem dX4_answerOfHall_57 : decode cX4_answerOfHall 57 = .ok (.getfield 28, 3) := by decide +kernel
theorem dX4_answerOfHall_60 : decode cX4_answerOfHall 60 = .ok (.invokevirtual 217, 3) := by decide +kernel
theorem dX4_answerOfHall_63 : decode cX4_answerOfHall 63 = .ok (.ireturn, 1) := by decide +kernel
set_option maxRecDepth 20000 in
theorem S_X4_answerOfHall_0 {g : GG} {d : Nat} {F : Int32 → St → Prop} (a1 : Int32) (σ : St) (h : ((a1 = 0 → (ME g d M_X1_ownWearers [vR 14] σ (qI (fun r5 σ6 => F r5 σ6)))) ∧ (¬ a1 = 0 → ((a1 = 1 → (ME g d M_X1_mostTaken [vR 14] σ (qI (fun r8 σ9 => F r8 σ9)))) ∧ (¬ a1 = 1 → ((a1 = 2 → (ME g d M_X1_visitsHome [vR 14] σ (qI (fun r11 σ12 => F r11 σ12)))) ∧ (¬ a1 = 2 → ((a1 = 3 → F (σ 14 4) σ) ∧ (¬ a1 = 3 → (ME g d M_X1_mostTaken [vR 14] σ (qI (fun r14 σ15 => F r14 σ15)))))))))))) : VM g (d + 1) M_X4_answerOfHall (qI F) 0 [(0, vR 0), (1, vI a1)] [] σ := by
  refine VE_iload_n 1 dX4_answerOfHall_0 (k := ?_)
  by_cases c1 : a1 = 0
  · refine VE_tableIn 32 dX4_answerOfHall_1 (by rw [c1]; decide) (by rw [c1]; decide) (by rw [c1]; rfl) ?_
    refine VE_aload_n 0 dX4_answerOfHall_32 (k := ?_)
    refine VE_getR 14 dX4_answerOfHall_33 fl_X4_28 ?_
    refine VE_cVi [] dX4_answerOfHall_36 ml_X4_208 (h.1 c1) (fun r5 σ6 h7 => ?_) (rok_D d)
    exact VM_iret dX4_answerOfHall_39 h7
  · by_cases c2 : a1 = 1
    · refine VE_tableIn 56 dX4_answerOfHall_1 (by rw [c2]; decide) (by rw [c2]; decide) (by rw [c2]; rfl) ?_
      refine VE_aload_n 0 dX4_answerOfHall_56 (k := ?_)
      refine VE_getR 14 dX4_answerOfHall_57 fl_X4_28 ?_
      refine VE_cVi [] dX4_answerOfHall_60 ml_X4_217 ((h.2 c1).1 c2) (fun r8 σ9 h10 => ?_) (rok_D d)
      exact VM_iret dX4_answerOfHall_63 h10
    · by_cases c3 : a1 = 2
      · refine VE_tableIn 40 dX4_answerOfHall_1 (by rw [c3]; decide) (by rw [c3]; decide) (by rw [c3]; rfl) ?_
        refine VE_aload_n 0 dX4_answerOfHall_40 (k := ?_)
        refine VE_getR 14 dX4_answerOfHall_41 fl_X4_28 ?_
        refine VE_cVi [] dX4_answerOfHall_44 ml_X4_211 (((h.2 c1).2 c2).1 c3) (fun r11 σ12 h13 => ?_) (rok_D d)
        exact VM_iret dX4_answerOfHall_47 h13
      · by_cases c4 : a1 = 3
        · refine VE_tableIn 48 dX4_answerOfHall_1 (by rw [c4]; decide) (by rw [c4]; decide) (by rw [c4]; rfl) ?_
          refine VE_aload_n 0 dX4_answerOfHall_48 (k := ?_)
          refine VE_getR 14 dX4_answerOfHall_49 fl_X4_28 ?_
          refine VE_getI dX4_answerOfHall_52 fl_X4_214 ?_
          exact VM_iret dX4_answerOfHall_55 ((((h.2 c1).2 c2).2 c3).1 c4)
        · refine VE_tableOut 56 dX4_answerOfHall_1 (by have e0 : ¬ a1.toInt = 0 := i32_ne c1; have e1 : ¬ a1.toInt = 1 := i32_ne c2; have e2 : ¬ a1.toInt = 2 := i32_ne c3; have e3 : ¬ a1.toInt = 3 := i32_ne c4; omega) ?_
          refine VE_aload_n 0 dX4_answerOfHall_56 (k := ?_)
          refine VE_getR 14 dX4_answerOfHall_57 fl_X4_28 ?_
          refine VE_cVi [] dX4_answerOfHall_60 ml_X4_217 ((((h.2 c1).2 c2).2 c3).2 c4) (fun r14 σ15 h16 => ?_) (rok_D d)
          exact VM_iret dX4_answerOfHall_63 h16
theorem dX4_answerOfHead_0 : decode cX4_answerOfHead 0 = .ok (.aload_n 0, 1) := by decide +kernel
theorem dX4_answerOfHead_1 : decode cX4_answerOfHead 1 = .ok (.getfield 21, 3) := by decide +kernel
theorem dX4_answerOfHead_4 : decode cX4_answerOfHead 4 = .ok (.iload_n 2, 1) := by decide +kernel
theorem dX4_answerOfHead_5 : decode cX4_answerOfHead 5 = .ok (.invokevirtual 64, 3) := by decide +kernel
theorem dX4_answerOfHead_8 : decode cX4_answerOfHead 8 = .ok (.ifCond .ne 6, 3) := by decide +kernel
theorem dX4_answerOfHead_11 : decode cX4_answerOfHead 11 = .ok (.bipush (-9), 2) := by decide +kernel
theorem dX4_answerOfHead_13 : decode cX4_answerOfHead 13 = .ok (.ireturn, 1) := by decide +kernel
theorem dX4_answerOfHead_14 : decode cX4_answerOfHead 14 = .ok (.iload_n 1, 1) := by decide +kernel
theorem dX4_answerOfHead_15 : decode cX4_answerOfHead 15 = .ok (.lookupswitch 45 #[(1, 25), (2, 35)], 25) := by decide +kernel
theorem dX4_answerOfHead_40 : decode cX4_answerOfHead 40 = .ok (.aload_n 0, 1) := by decide +kernel
theorem dX4_answerOfHead_41 : decode cX4_answerOfHead 41 = .ok (.getfield 28, 3) := by decide +kernel
theorem dX4_answerOfHead_44 : decode cX4_answerOfHead 44 = .ok (.getfield 220, 3) := by decide +kernel
theorem dX4_answerOfHead_47 : decode cX4_answerOfHead 47 = .ok (.iload_n 2, 1) := by decide +kernel
theorem dX4_answerOfHead_48 : decode cX4_answerOfHead 48 = .ok (.iaload, 1) := by decide +kernel
theorem dX4_answerOfHead_49 : decode cX4_answerOfHead 49 = .ok (.ireturn, 1) := by decide +kernel
theorem dX4_answerOfHead_50 : decode cX4_answerOfHead 50 = .ok (.aload_n 0, 1) := by decide +kernel
theorem dX4_answerOfHead_51 : decode cX4_answerOfHead 51 = .ok (.getfield 28, 3) := by decide +kernel
theorem dX4_answerOfHead_54 : decode cX4_answerOfHead 54 = .ok (.getfield 223, 3) := by decide +kernel
theorem dX4_answerOfHead_57 : decode cX4_answerOfHead 57 = .ok (.iload_n 2, 1) := by decide +kernel
theorem dX4_answerOfHead_58 : decode cX4_answerOfHead 58 = .ok (.iaload, 1) := by decide +kernel
theorem dX4_answerOfHead_59 : decode cX4_answerOfHead 59 = .ok (.ireturn, 1) := by decide +kernel
theorem dX4_answerOfHead_60 : decode cX4_answerOfHead 60 = .ok (.aload_n 0, 1) := by decide +kernel
theorem dX4_answerOfHead_61 : decode cX4_answerOfHead 61 = .ok (.getfield 28, 3) := by decide +kernel
theorem dX4_answerOfHead_64 : decode cX4_answerOfHead 64 = .ok (.iload_n 2, 1) := by decide +kernel
theorem dX4_answerOfHead_65 : decode cX4_answerOfHead 65 = .ok (.aload_n 0, 1) := by decide +kernel
theorem dX4_answerOfHead_66 : decode cX4_answerOfHead 66 = .ok (.getfield 21, 3) := by decide +kernel
theorem dX4_answerOfHead_69 : decode cX4_answerOfHead 69 = .ok (.getfield 74, 3) := by decide +kernel
theorem dX4_answerOfHead_72 : decode cX4_answerOfHead 72 = .ok (.iload_n 2, 1) := by decide +kernel
theorem dX4_answerOfHead_73 : decode cX4_answerOfHead 73 = .ok (.iaload, 1) := by decide +kernel
theorem dX4_answerOfHead_74 : decode cX4_answerOfHead 74 = .ok (.invokevirtual 226, 3) := by decide +kernel
theorem dX4_answerOfHead_77 : decode cX4_answerOfHead 77 = .ok (.ireturn, 1) := by decide +kernel
set_option maxRecDepth 20000 in
theorem S_X4_answerOfHead_0 {g : GG} {d : Nat} {F : Int32 → St → Prop} (a1 : Int32) (a2 : Int32) (σ : St) (h : (ME g d M_X0_has [vR 10, vI a2] σ (qI (fun r1 σ2 => ((¬ r1 = 0 → ((a1 = 1 → (vp_in a2 5 ∧ F (σ2 15 a2.toNatClampNeg) σ2)) ∧ (¬ a1 = 1 → ((a1 = 2 → (vp_in a2 5 ∧ F (σ2 16 a2.toNatClampNeg) σ2)) ∧ (¬ a1 = 2 → (vp_in a2 5 ∧ (ME g d M_X1_fooling [vR 14, vI a2, vI (σ2 13 a2.toNatClampNeg)] σ2 (qI (fun r7 σ8 => F r7 σ8))))))))) ∧ (r1 = 0 → F (-9) σ2)))))) : VM g (d + 1) M_X4_answerOfHead (qI F) 0 [(0, vR 0), (1, vI a1), (2, vI a2)] [] σ := by
  refine VE_aload_n 0 dX4_answerOfHead_0 (k := ?_)
  refine VE_getR 10 dX4_answerOfHead_1 fl_X4_21 ?_
  refine VE_iload_n 2 dX4_answerOfHead_4 (k := ?_)
  refine VE_cVi [vI a2] dX4_answerOfHead_5 ml_X4_64 h (fun r1 σ2 h3 => ?_) (rok_D d)
  refine VE_if_ne 14 dX4_answerOfHead_8 (fun c4 => ?_) (fun c4 => ?_)
  · refine VE_iload_n 1 dX4_answerOfHead_14 (k := ?_)
    by_cases c5 : a1 = 1
    · refine VE_lookup (off := 25) 40 dX4_answerOfHead_15 (by decide) (by rw [c5]; first | done | rfl) ?_
      refine VE_aload_n 0 dX4_answerOfHead_40 (k := ?_)
      refine VE_getR 14 dX4_answerOfHead_41 fl_X4_28 ?_
      refine VE_getR 15 dX4_answerOfHead_44 fl_X4_220 ?_
      refine VE_iload_n 2 dX4_answerOfHead_47 (k := ?_)
      refine VE_iald dX4_answerOfHead_48 ((h3.1 c4).1 c5).1 ?_
      exact VM_iret dX4_answerOfHead_49 ((h3.1 c4).1 c5).2
    · by_cases c6 : a1 = 2
      · refine VE_lookup (off := 35) 50 dX4_answerOfHead_15 (by decide) (by rw [c6]; first | done | rfl) ?_
        refine VE_aload_n 0 dX4_answerOfHead_50 (k := ?_)
        refine VE_getR 14 dX4_answerOfHead_51 fl_X4_28 ?_
        refine VE_getR 16 dX4_answerOfHead_54 fl_X4_223 ?_
        refine VE_iload_n 2 dX4_answerOfHead_57 (k := ?_)
        refine VE_iald dX4_answerOfHead_58 (((h3.1 c4).2 c5).1 c6).1 ?_
        exact VM_iret dX4_answerOfHead_59 (((h3.1 c4).2 c5).1 c6).2
      · refine VE_lookup (off := 45) 60 dX4_answerOfHead_15 (by decide) ((lv_osw c5 rfl).trans (lv_osw c6 rfl)) ?_
        refine VE_aload_n 0 dX4_answerOfHead_60 (k := ?_)
        refine VE_getR 14 dX4_answerOfHead_61 fl_X4_28 ?_
        refine VE_iload_n 2 dX4_answerOfHead_64 (k := ?_)
        refine VE_aload_n 0 dX4_answerOfHead_65 (k := ?_)
        refine VE_getR 10 dX4_answerOfHead_66 fl_X4_21 ?_
        refine VE_getR 13 dX4_answerOfHead_69 fl_X4_74 ?_
        refine VE_iload_n 2 dX4_answerOfHead_72 (k := ?_)
        refine VE_iald dX4_answerOfHead_73 (((h3.1 c4).2 c5).2 c6).1 ?_
        refine VE_cVi [vI a2, vI (σ2 13 a2.toNatClampNeg)] dX4_answerOfHead_74 ml_X4_226 (((h3.1 c4).2 c5).2 c6).2 (fun r7 σ8 h9 => ?_) (rok_D d)
        exact VM_iret dX4_answerOfHead_77 h9
  · refine VE_bipush (-9) dX4_answerOfHead_11 (k := ?_)
    exact VM_iret dX4_answerOfHead_13 (h3.2 c4)
theorem dX4_bitIfAllSo_0 : decode cX4_bitIfAllSo 0 = .ok (.aload_n 0, 1) := by decide +kernel
theorem dX4_bitIfAllSo_1 : decode cX4_bitIfAllSo 1 = .ok (.invokevirtual 229, 3) := by decide +kernel
theorem dX4_bitIfAllSo_4 : decode cX4_bitIfAllSo 4 = .ok (.ifCond .eq 9, 3) := by decide +kernel
theorem dX4_bitIfAllSo_7 : decode cX4_bitIfAllSo 7 = .ok (.iconst 1, 1) := by decide +kernel
theorem dX4_bitIfAllSo_8 : decode cX4_bitIfAllSo 8 = .ok (.iload_n 1, 1) := by decide +kernel
theorem dX4_bitIfAllSo_9 : decode cX4_bitIfAllSo 9 = .ok (.ishl, 1) := by decide +kernel
theorem dX4_bitIfAllSo_10 : decode cX4_bitIfAllSo 10 = .ok (.goto 4, 3) := by decide +kernel
theorem dX4_bitIfAllSo_13 : decode cX4_bitIfAllSo 13 = .ok (.iconst 0, 1) := by decide +kernel
theorem dX4_bitIfAllSo_14 : decode cX4_bitIfAllSo 14 = .ok (.ireturn, 1) := by decide +kernel
set_option maxRecDepth 20000 in
theorem S_X4_bitIfAllSo_0 {g : GG} {d : Nat} {F : Int32 → St → Prop} (a1 : Int32) (σ : St) (h : (ME g d M_X4_allSo [vR 0] σ (qI (fun r1 σ2 => ((r1 = 0 → F 0 σ2) ∧ (¬ r1 = 0 → F (1 <<< (a1 &&& 31)) σ2)))))) : VM g (d + 1) M_X4_bitIfAllSo (qI F) 0 [(0, vR 0), (1, vI a1)] [] σ := by
  refine VE_aload_n 0 dX4_bitIfAllSo_0 (k := ?_)
  refine VE_cVi [] dX4_bitIfAllSo_1 ml_X4_229 h (fun r1 σ2 h3 => ?_) (rok_D d)
  refine VE_if_eq 13 dX4_bitIfAllSo_4 (fun c4 => ?_) (fun c4 => ?_)
  · refine VE_iconst 0 dX4_bitIfAllSo_13 (k := ?_)
    exact VM_iret dX4_bitIfAllSo_14 (h3.1 c4)
  · refine VE_iconst 1 dX4_bitIfAllSo_7 (k := ?_)
    refine VE_iload_n 1 dX4_bitIfAllSo_8 (k := ?_)
    refine VE_ishl dX4_bitIfAllSo_9 ?_
    refine VE_goto 14 dX4_bitIfAllSo_10 ?_
    exact VM_iret dX4_bitIfAllSo_14 (h3.2 c4)
theorem dX4_allSo_0 : decode cX4_allSo 0 = .ok (.aload_n 0, 1) := by decide +kernel
theorem dX4_allSo_1 : decode cX4_allSo 1 = .ok (.getfield 35, 3) := by decide +kernel
theorem dX4_allSo_4 : decode cX4_allSo 4 = .ok (.aload_n 0, 1) := by decide +kernel
theorem dX4_allSo_5 : decode cX4_allSo 5 = .ok (.getfield 202, 3) := by decide +kernel
theorem dX4_allSo_8 : decode cX4_allSo 8 = .ok (.invokevirtual 232, 3) := by decide +kernel
theorem dX4_allSo_11 : decode cX4_allSo 11 = .ok (.ifCond .ne 18, 3) := by decide +kernel
theorem dX4_allSo_14 : decode cX4_allSo 14 = .ok (.aload_n 0, 1) := by decide +kernel
theorem dX4_allSo_15 : decode cX4_allSo 15 = .ok (.getfield 35, 3) := by decide +kernel
theorem dX4_allSo_18 : decode cX4_allSo 18 = .ok (.iconst 0, 1) := by decide +kernel
theorem dX4_allSo_19 : decode cX4_allSo 19 = .ok (.aload_n 0, 1) := by decide +kernel
theorem dX4_allSo_20 : decode cX4_allSo 20 = .ok (.getfield 28, 3) := by decide +kernel
theorem dX4_allSo_23 : decode cX4_allSo 23 = .ok (.invokevirtual 235, 3) := by decide +kernel
theorem dX4_allSo_26 : decode cX4_allSo 26 = .ok (.ifCond .ne 5, 3) := by decide +kernel
theorem dX4_allSo_29 : decode cX4_allSo 29 = .ok (.iconst 0, 1) := by decide +kernel
theorem dX4_allSo_30 : decode cX4_allSo 30 = .ok (.ireturn, 1) := by decide +kernel
theorem dX4_allSo_31 : decode cX4_allSo 31 = .ok (.iconst 0, 1) := by decide +kernel
theorem dX4_allSo_32 : decode cX4_allSo 32 = .ok (.istore_n 1, 1) := by decide +kernel
theorem dX4_allSo_33 : decode cX4_allSo 33 = .ok (.iload_n 1, 1) := by decide +kernel
theorem dX4_allSo_34 : decode cX4_allSo 34 = .ok (.aload_n 0, 1) := by decide +kernel
theorem dX4_allSo_35 : decode cX4_allSo 35 = .ok (.getfield 202, 3) := by decide +kernel
theorem dX4_allSo_38 : decode cX4_allSo 38 = .ok (.if_icmp .ge 44, 3) := by decide +kernel
theorem dX4_allSo_41 : decode cX4_allSo 41 = .ok (.aload_n 0, 1) := by decide +kernel
theorem dX4_allSo_42 : decode cX4_allSo 42 = .ok (.getfield 28, 3) := by decide +kernel
theorem dX4_allSo_45 : decode cX4_allSo 45 = .ok (.aload_n 0, 1) := by decide +kernel
theorem dX4_allSo_46 : decode cX4_allSo 46 = .ok (.getfield 39, 3) := by decide +kernel
theorem dX4_allSo_49 : decode cX4_allSo 49 = .ok (.iload_n 1, 1) := by decide +kernel
theorem dX4_allSo_50 : decode cX4_allSo 50 = .ok (.iaload, 1) := by decide +kernel
theorem dX4_allSo_51 : decode cX4_allSo 51 = .ok (.invokevirtual 205, 3) := by decide +kernel
theorem dX4_allSo_54 : decode cX4_allSo 54 = .ok (.ifCond .eq 20, 3) := by decide +kernel
theorem dX4_allSo_57 : decode cX4_allSo 57 = .ok (.aload_n 0, 1) := by decide +kernel
theorem dX4_allSo_58 : decode cX4_allSo 58 = .ok (.getfield 35, 3) := by decide +kernel
theorem dX4_allSo_61 : decode cX4_allSo 61 = .ok (.iload_n 1, 1) := by decide +kernel
theorem dX4_allSo_62 : decode cX4_allSo 62 = .ok (.iconst 1, 1) := by decide +kernel
theorem dX4_allSo_63 : decode cX4_allSo 63 = .ok (.iadd, 1) := by decide +kernel
theorem dX4_allSo_64 : decode cX4_allSo 64 = .ok (.aload_n 0, 1) := by decide +kernel
theorem dX4_allSo_65 : decode cX4_allSo 65 = .ok (.getfield 28, 3) := by decide +kernel
theorem dX4_allSo_68 : decode cX4_allSo 68 = .ok (.invokevirtual 235, 3) := by decide +kernel
theorem dX4_allSo_71 : decode cX4_allSo 71 = .ok (.ifCond .ne 5, 3) := by decide +kernel
theorem dX4_allSo_74 : decode cX4_allSo 74 = .ok (.iconst 0, 1) := by decide +kernel
theorem dX4_allSo_75 : decode cX4_allSo 75 = .ok (.ireturn, 1) := by decide +kernel
theorem dX4_allSo_76 : decode cX4_allSo 76 = .ok (.iinc 1 1, 3) := by decide +kernel
theorem dX4_allSo_79 : decode cX4_allSo 79 = .ok (.goto (-46), 3) := by decide +kernel
theorem dX4_allSo_82 : decode cX4_allSo 82 = .ok (.iconst 1, 1) := by decide +kernel
theorem dX4_allSo_83 : decode cX4_allSo 83 = .ok (.ireturn, 1) := by decide +kernel
set_option maxRecDepth 20000 in
theorem S_X4_allSo_0 {g : GG} {d : Nat} {F : Int32 → St → Prop}  (σ : St) (h : (ME g d M_X2_reachBeyond [vR 18, vI (σ 0 5)] σ (qI (fun r1 σ2 => ((¬ r1 = 0 → F 0 σ2) ∧ (r1 = 0 → (ME g d M_X2_areSo [vR 18, vI 0, vR 14] σ2 (qI (fun r5 σ6 => ((¬ r5 = 0 → VM g (d + 1) M_X4_allSo (qI F) 33 [(0, vR 0), (1, vI 0)] [] σ6) ∧ (r5 = 0 → F 0 σ6))))))))))) : VM g (d + 1) M_X4_allSo (qI F) 0 [(0, vR 0)] [] σ := by
  refine VE_aload_n 0 dX4_allSo_0 (k := ?_)
  refine VE_getR 18 dX4_allSo_1 fl_X4_35 ?_
  refine VE_aload_n 0 dX4_allSo_4 (k := ?_)
  refine VE_getI dX4_allSo_5 fl_X4_202 ?_
  refine VE_cVi [vI (σ 0 5)] dX4_allSo_8 ml_X4_232 h (fun r1 σ2 h3 => ?_) (rok_D d)
  refine VE_if_ne 29 dX4_allSo_11 (fun c4 => ?_) (fun c4 => ?_)
  · refine VE_iconst 0 dX4_allSo_29 (k := ?_)
    exact VM_zret dX4_allSo_30 (h3.1 c4) (by decide)
  · refine VE_aload_n 0 dX4_allSo_14 (k := ?_)
    refine VE_getR 18 dX4_allSo_15 fl_X4_35 ?_
    refine VE_iconst 0 dX4_allSo_18 (k := ?_)
    refine VE_aload_n 0 dX4_allSo_19 (k := ?_)
    refine VE_getR 14 dX4_allSo_20 fl_X4_28 ?_
    refine VE_cVi [vI 0, vR 14] dX4_allSo_23 ml_X4_235 (h3.2 c4) (fun r5 σ6 h7 => ?_) (rok_D d)
    refine VE_if_ne 31 dX4_allSo_26 (fun c8 => ?_) (fun c8 => ?_)
    · refine VE_iconst 0 dX4_allSo_31 (k := ?_)
      refine VE_istore_n (ls' := [(1, vI 0), (0, vR 0)]) dX4_allSo_32 ?_
      exact VE_sub [1, 0] rfl (h7.1 c8)
    · refine VE_iconst 0 dX4_allSo_29 (k := ?_)
      exact VM_zret dX4_allSo_30 (h7.2 c8) (by decide)
set_option maxRecDepth 20000 in
theorem S_X4_allSo_33 {g : GG} {d : Nat} {F : Int32 → St → Prop} (x1 : Int32) (σ : St) (h : (((σ 0 5) ≤ x1 → F 1 σ) ∧ (¬ (σ 0 5) ≤ x1 → (vp_in x1 20 ∧ (ME g d M_X1_receives [vR 14, vI (σ 22 x1.toNatClampNeg)] σ (qI (fun r2 σ3 => ((r2 = 0 → F 0 σ3) ∧ (¬ r2 = 0 → (ME g d M_X2_areSo [vR 18, vI (x1 + 1), vR 14] σ3 (qI (fun r6 σ7 => ((¬ r6 = 0 → VM g (d + 1) M_X4_allSo (qI F) 33 [(0, vR 0), (1, vI (x1 + 1))] [] σ7) ∧ (r6 = 0 → F 0 σ7)))))))))))))) : VM g (d + 1) M_X4_allSo (qI F) 33 [(0, vR 0), (1, vI x1)] [] σ := by
  refine VE_iload_n 1 dX4_allSo_33 (k := ?_)
  refine VE_aload_n 0 dX4_allSo_34 (k := ?_)
  refine VE_getI dX4_allSo_35 fl_X4_202 ?_
  refine VE_icmp_ge 82 dX4_allSo_38 (fun c1 => ?_) (fun c1 => ?_)
  · refine VE_iconst 1 dX4_allSo_82 (k := ?_)
    exact VM_zret dX4_allSo_83 (h.1 c1) (by decide)
  · refine VE_aload_n 0 dX4_allSo_41 (k := ?_)
    refine VE_getR 14 dX4_allSo_42 fl_X4_28 ?_
    refine VE_aload_n 0 dX4_allSo_45 (k := ?_)
    refine VE_getR 22 dX4_allSo_46 fl_X4_39 ?_
    refine VE_iload_n 1 dX4_allSo_49 (k := ?_)
    refine VE_iald dX4_allSo_50 (h.2 c1).1 ?_
    refine VE_cVi [vI (σ 22 x1.toNatClampNeg)] dX4_allSo_51 ml_X4_205 (h.2 c1).2 (fun r2 σ3 h4 => ?_) (rok_D d)
    refine VE_if_eq 74 dX4_allSo_54 (fun c5 => ?_) (fun c5 => ?_)
    · refine VE_iconst 0 dX4_allSo_74 (k := ?_)
      exact VM_zret dX4_allSo_75 (h4.1 c5) (by decide)
    · refine VE_aload_n 0 dX4_allSo_57 (k := ?_)
      refine VE_getR 18 dX4_allSo_58 fl_X4_35 ?_
      refine VE_iload_n 1 dX4_allSo_61 (k := ?_)
      refine VE_iconst 1 dX4_allSo_62 (k := ?_)
      refine VE_iadd dX4_allSo_63 ?_
      refine VE_aload_n 0 dX4_allSo_64 (k := ?_)
      refine VE_getR 14 dX4_allSo_65 fl_X4_28 ?_
      refine VE_cVi [vI (x1 + 1), vR 14] dX4_allSo_68 ml_X4_235 (h4.2 c5) (fun r6 σ7 h8 => ?_) (rok_D d)
      refine VE_if_ne 76 dX4_allSo_71 (fun c9 => ?_) (fun c9 => ?_)
      · refine VE_iinc 1 (x1 + 1) (ls' := [(1, vI (x1 + 1)), (0, vR 0)]) dX4_allSo_76 ?_
        refine VE_goto 33 dX4_allSo_79 ?_
        exact VE_sub [1, 0] rfl (h8.1 c9)
      · refine VE_iconst 0 dX4_allSo_74 (k := ?_)
        exact VM_zret dX4_allSo_75 (h8.2 c9) (by decide)
theorem dX4_rowsTo_0 : decode cX4_rowsTo 0 = .ok (.iload_n 3, 1) := by decide +kernel
theorem dX4_rowsTo_1 : decode cX4_rowsTo 1 = .ok (.ifCond .gt 19, 3) := by decide +kernel
theorem dX4_rowsTo_4 : decode cX4_rowsTo 4 = .ok (.aload_n 0, 1) := by decide +kernel
theorem dX4_rowsTo_5 : decode cX4_rowsTo 5 = .ok (.getfield 220, 3) := by decide +kernel
theorem dX4_rowsTo_8 : decode cX4_rowsTo 8 = .ok (.iload_n 1, 1) := by decide +kernel
theorem dX4_rowsTo_9 : decode cX4_rowsTo 9 = .ok (.iaload, 1) := by decide +kernel
theorem dX4_rowsTo_10 : decode cX4_rowsTo 10 = .ok (.iload_n 2, 1) := by decide +kernel
theorem dX4_rowsTo_11 : decode cX4_rowsTo 11 = .ok (.if_icmp .ne 7, 3) := by decide +kernel
theorem dX4_rowsTo_14 : decode cX4_rowsTo 14 = .ok (.iconst 1, 1) := by decide +kernel
theorem dX4_rowsTo_15 : decode cX4_rowsTo 15 = .ok (.goto 4, 3) := by decide +kernel
theorem dX4_rowsTo_18 : decode cX4_rowsTo 18 = .ok (.iconst 0, 1) := by decide +kernel
theorem dX4_rowsTo_19 : decode cX4_rowsTo 19 = .ok (.ireturn, 1) := by decide +kernel
theorem dX4_rowsTo_20 : decode cX4_rowsTo 20 = .ok (.iconst 0, 1) := by decide +kernel
theorem dX4_rowsTo_21 : decode cX4_rowsTo 21 = .ok (.istore 4, 2) := by decide +kernel
theorem dX4_rowsTo_23 : decode cX4_rowsTo 23 = .ok (.iconst 0, 1) := by decide +kernel
theorem dX4_rowsTo_24 : decode cX4_rowsTo 24 = .ok (.istore 5, 2) := by decide +kernel
theorem dX4_rowsTo_26 : decode cX4_rowsTo 26 = .ok (.iload 5, 2) := by decide +kernel
theorem dX4_rowsTo_28 : decode cX4_rowsTo 28 = .ok (.aload_n 0, 1) := by decide +kernel
theorem dX4_rowsTo_29 : decode cX4_rowsTo 29 = .ok (.getfield 239, 3) := by decide +kernel
theorem dX4_rowsTo_32 : decode cX4_rowsTo 32 = .ok (.if_icmp .ge 38, 3) := by decide +kernel
theorem dX4_rowsTo_35 : decode cX4_rowsTo 35 = .ok (.aload_n 0, 1) := by decide +kernel
theorem dX4_rowsTo_36 : decode cX4_rowsTo 36 = .ok (.iload 5, 2) := by decide +kernel
theorem dX4_rowsTo_38 : decode cX4_rowsTo 38 = .ok (.invokevirtual 205, 3) := by decide +kernel
theorem dX4_rowsTo_41 : decode cX4_rowsTo 41 = .ok (.ifCond .eq 23, 3) := by decide +kernel
theorem dX4_rowsTo_44 : decode cX4_rowsTo 44 = .ok (.iload 4, 2) := by decide +kernel
theorem dX4_rowsTo_46 : decode cX4_rowsTo 46 = .ok (.aload_n 0, 1) := by decide +kernel
theorem dX4_rowsTo_47 : decode cX4_rowsTo 47 = .ok (.iload_n 1, 1) := by decide +kernel
theorem dX4_rowsTo_48 : decode cX4_rowsTo 48 = .ok (.iload_n 2, 1) := by decide +kernel
theorem dX4_rowsTo_49 : decode cX4_rowsTo 49 = .ok (.iload_n 3, 1) := by decide +kernel
theorem dX4_rowsTo_50 : decode cX4_rowsTo 50 = .ok (.iconst 1, 1) := by decide +kernel
theorem dX4_rowsTo_51 : decode cX4_rowsTo 51 = .ok (.isub, 1) := by decide +kernel
theorem dX4_rowsTo_52 : decode cX4_rowsTo 52 = .ok (.invokestatic 118, 3) := by decide +kernel
theorem dX4_rowsTo_55 : decode cX4_rowsTo 55 = .ok (.iadd, 1) := by decide +kernel
theorem dX4_rowsTo_56 : decode cX4_rowsTo 56 = .ok (.istore 4, 2) := by decide +kernel
theorem dX4_rowsTo_58 : decode cX4_rowsTo 58 = .ok (.aload_n 0, 1) := by decide +kernel
theorem dX4_rowsTo_59 : decode cX4_rowsTo 59 = .ok (.iload 5, 2) := by decide +kernel
theorem dX4_rowsTo_61 : decode cX4_rowsTo 61 = .ok (.invokevirtual 241, 3) := by decide +kernel
theorem dX4_rowsTo_64 : decode cX4_rowsTo 64 = .ok (.iinc 5 1, 3) := by decide +kernel
theorem dX4_rowsTo_67 : decode cX4_rowsTo 67 = .ok (.goto (-41), 3) := by decide +kernel
theorem dX4_rowsTo_70 : decode cX4_rowsTo 70 = .ok (.iload 4, 2) := by decide +kernel
theorem dX4_rowsTo_72 : decode cX4_rowsTo 72 = .ok (.ireturn, 1) := by decide +kernel
set_option maxRecDepth 20000 in
theorem S_X4_rowsTo_0 {g : GG} {d : Nat} {F : Int32 → St → Prop} (a2 : Int32) (a3 : Int32) (a4 : Int32) (σ : St) (h : ((0 < a4 → VM g (d + 1) M_X4_rowsTo (qI F) 26 [(0, vR 14), (1, vI a2), (2, vI a3), (3, vI a4), (4, vI 0), (5, vI 0)] [] σ) ∧ (¬ 0 < a4 → (vp_in a2 5 ∧ ((¬ (σ 15 a2.toNatClampNeg) = a3 → F 0 σ) ∧ ((σ 15 a2.toNatClampNeg) = a3 → F 1 σ)))))) : VM g (d + 1) M_X4_rowsTo (qI F) 0 [(0, vR 14), (1, vI a2), (2, vI a3), (3, vI a4)] [] σ := by
  refine VE_iload_n 3 dX4_rowsTo_0 (k := ?_)
  refine VE_if_gt 20 dX4_rowsTo_1 (fun c1 => ?_) (fun c1 => ?_)
  · refine VE_iconst 0 dX4_rowsTo_20 (k := ?_)
    refine VE_istore (ls' := [(4, vI 0), (0, vR 14), (1, vI a2), (2, vI a3), (3, vI a4)]) dX4_rowsTo_21 ?_
    refine VE_iconst 0 dX4_rowsTo_23 (k := ?_)
    refine VE_istore (ls' := [(5, vI 0), (4, vI 0), (0, vR 14), (1, vI a2), (2, vI a3), (3, vI a4)]) dX4_rowsTo_24 ?_
    exact VE_sub [2, 3, 4, 5, 1, 0] rfl (h.1 c1)
  · refine VE_aload_n 0 dX4_rowsTo_4 (k := ?_)
    refine VE_getR 15 dX4_rowsTo_5 fl_X4_220 ?_
    refine VE_iload_n 1 dX4_rowsTo_8 (k := ?_)
    refine VE_iald dX4_rowsTo_9 (h.2 c1).1 ?_
    refine VE_iload_n 2 dX4_rowsTo_10 (k := ?_)
    refine VE_icmp_ne 18 dX4_rowsTo_11 (fun c2 => ?_) (fun c2 => ?_)
    · refine VE_iconst 0 dX4_rowsTo_18 (k := ?_)
      exact VM_iret dX4_rowsTo_19 ((h.2 c1).2.1 c2)
    · refine VE_iconst 1 dX4_rowsTo_14 (k := ?_)
      refine VE_goto 19 dX4_rowsTo_15 ?_
      exact VM_iret dX4_rowsTo_19 ((h.2 c1).2.2 c2)
set_option maxRecDepth 20000 in
theorem S_X4_rowsTo_26 {g : GG} {d : Nat} {F : Int32 → St → Prop} (x1 : Int32) (x2 : Int32) (x3 : Int32) (x4 : Int32) (x5 : Int32) (σ : St) (h : (((σ 14 3) ≤ x5 → F x4 σ) ∧ (¬ (σ 14 3) ≤ x5 → (ME g d M_X1_receives [vR 14, vI x5] σ (qI (fun r2 σ3 => ((r2 = 0 → VM g (d + 1) M_X4_rowsTo (qI F) 26 [(0, vR 14), (1, vI x1), (2, vI x2), (3, vI x3), (4, vI x4), (5, vI (x5 + 1))] [] σ3) ∧ (¬ r2 = 0 → (ME g d M_X4_rowsTo [vR 14, vI x1, vI x2, vI (x3 - 1)] σ3 (qI (fun r6 σ7 => (ME g d M_X1_takesBack [vR 14, vI x5] σ7 (qV (fun σ10 => VM g (d + 1) M_X4_rowsTo (qI F) 26 [(0, vR 14), (1, vI x1), (2, vI x2), (3, vI x3), (4, vI (x4 + r6)), (5, vI (x5 + 1))] [] σ10)))))))))))))) : VM g (d + 1) M_X4_rowsTo (qI F) 26 [(0, vR 14), (1, vI x1), (2, vI x2), (3, vI x3), (4, vI x4), (5, vI x5)] [] σ := by
  refine VE_iload 5 dX4_rowsTo_26 (k := ?_)
  refine VE_aload_n 0 dX4_rowsTo_28 (k := ?_)
  refine VE_getI dX4_rowsTo_29 fl_X4_239 ?_
  refine VE_icmp_ge 70 dX4_rowsTo_32 (fun c1 => ?_) (fun c1 => ?_)
  · refine VE_iload 4 dX4_rowsTo_70 (k := ?_)
    exact VM_iret dX4_rowsTo_72 (h.1 c1)
  · refine VE_aload_n 0 dX4_rowsTo_35 (k := ?_)
    refine VE_iload 5 dX4_rowsTo_36 (k := ?_)
    refine VE_cVi [vI x5] dX4_rowsTo_38 ml_X4_205 (h.2 c1) (fun r2 σ3 h4 => ?_) (rok_D d)
    refine VE_if_eq 64 dX4_rowsTo_41 (fun c5 => ?_) (fun c5 => ?_)
    · refine VE_iinc 5 (x5 + 1) (ls' := [(5, vI (x5 + 1)), (0, vR 14), (1, vI x1), (2, vI x2), (3, vI x3), (4, vI x4)]) dX4_rowsTo_64 ?_
      refine VE_goto 26 dX4_rowsTo_67 ?_
      exact VE_sub [1, 2, 3, 4, 5, 0] rfl (h4.1 c5)
    · refine VE_iload 4 dX4_rowsTo_44 (k := ?_)
      refine VE_aload_n 0 dX4_rowsTo_46 (k := ?_)
      refine VE_iload_n 1 dX4_rowsTo_47 (k := ?_)
      refine VE_iload_n 2 dX4_rowsTo_48 (k := ?_)
      refine VE_iload_n 3 dX4_rowsTo_49 (k := ?_)
      refine VE_iconst 1 dX4_rowsTo_50 (k := ?_)
      refine VE_isub dX4_rowsTo_51 ?_
      refine VE_cSi [vR 14, vI x1, vI x2, vI (x3 - 1)] dX4_rowsTo_52 ml_X4_118 (h4.2 c5) (fun r6 σ7 h8 => ?_) (rok_D d)
      refine VE_iadd dX4_rowsTo_55 ?_
      refine VE_istore (ls' := [(4, vI (x4 + r6)), (0, vR 14), (1, vI x1), (2, vI x2), (3, vI x3), (5, vI x5)]) dX4_rowsTo_56 ?_
      refine VE_aload_n 1 dX4_rowsTo_58 (k := ?_)
      refine VE_iload 5 dX4_rowsTo_59 (k := ?_)
      refine VE_cVv [vI x5] dX4_rowsTo_61 ml_X4_241 h8 (fun σ10 h11 => ?_) (rok_D d)
      refine VE_iinc 5 (x5 + 1) (ls' := [(5, vI (x5 + 1)), (4, vI (x4 + r6)), (0, vR 14), (1, vI x1), (2, vI x2), (3, vI x3)]) dX4_rowsTo_64 ?_
      refine VE_goto 26 dX4_rowsTo_67 ?_
      exact VE_sub [2, 3, 4, 5, 1, 0] rfl h11
theorem dX4_greatestDivisor_0 : decode cX4_greatestDivisor 0 = .ok (.iload_n 1, 1) := by decide +kernel
theorem dX4_greatestDivisor_1 : decode cX4_greatestDivisor 1 = .ok (.istore_n 2, 1) := by decide +kernel
theorem dX4_greatestDivisor_2 : decode cX4_greatestDivisor 2 = .ok (.iload_n 0, 1) := by decide +kernel
theorem dX4_greatestDivisor_3 : decode cX4_greatestDivisor 3 = .ok (.istore_n 3, 1) := by decide +kernel
theorem dX4_greatestDivisor_4 : decode cX4_greatestDivisor 4 = .ok (.iconst 0, 1) := by decide +kernel
theorem dX4_greatestDivisor_5 : decode cX4_greatestDivisor 5 = .ok (.istore 4, 2) := by decide +kernel
theorem dX4_greatestDivisor_7 : decode cX4_greatestDivisor 7 = .ok (.iload 4, 2) := by decide +kernel
theorem dX4_greatestDivisor_9 : decode cX4_greatestDivisor 9 = .ok (.bipush 100, 2) := by decide +kernel
theorem dX4_greatestDivisor_11 : decode cX4_greatestDivisor 11 = .ok (.if_icmp .ge 23, 3) := by decide +kernel
theorem dX4_greatestDivisor_14 : decode cX4_greatestDivisor 14 = .ok (.iload_n 3, 1) := by decide +kernel
theorem dX4_greatestDivisor_15 : decode cX4_greatestDivisor 15 = .ok (.ifCond .eq 19, 3) := by decide +kernel
theorem dX4_greatestDivisor_18 : decode cX4_greatestDivisor 18 = .ok (.iload_n 2, 1) := by decide +kernel
theorem dX4_greatestDivisor_19 : decode cX4_greatestDivisor 19 = .ok (.iload_n 3, 1) := by decide +kernel
theorem dX4_greatestDivisor_20 : decode cX4_greatestDivisor 20 = .ok (.irem, 1) := by decide +kernel
theorem dX4_greatestDivisor_21 : decode cX4_greatestDivisor 21 = .ok (.istore 5, 2) := by decide +kernel
theorem dX4_greatestDivisor_23 : decode cX4_greatestDivisor 23 = .ok (.iload_n 3, 1) := by decide +kernel
theorem dX4_greatestDivisor_24 : decode cX4_greatestDivisor 24 = .ok (.istore_n 2, 1) := by decide +kernel
theorem dX4_greatestDivisor_25 : decode cX4_greatestDivisor 25 = .ok (.iload 5, 2) := by decide +kernel
theorem dX4_greatestDivisor_27 : decode cX4_greatestDivisor 27 = .ok (.istore_n 3, 1) := by decide +kernel
theorem dX4_greatestDivisor_28 : decode cX4_greatestDivisor 28 = .ok (.iinc 4 1, 3) := by decide +kernel
theorem dX4_greatestDivisor_31 : decode cX4_greatestDivisor 31 = .ok (.goto (-24), 3) := by decide +kernel
theorem dX4_greatestDivisor_34 : decode cX4_greatestDivisor 34 = .ok (.iload_n 2, 1) := by decide +kernel
theorem dX4_greatestDivisor_35 : decode cX4_greatestDivisor 35 = .ok (.iconst 1, 1) := by decide +kernel
theorem dX4_greatestDivisor_36 : decode cX4_greatestDivisor 36 = .ok (.invokestatic 244, 3) := by decide +kernel
theorem dX4_greatestDivisor_39 : decode cX4_greatestDivisor 39 = .ok (.ireturn, 1) := by decide +kernel
set_option maxRecDepth 20000 in
theorem S_X4_greatestDivisor_0 {g : GG} {d : Nat} {F : Int32 → St → Prop} (a1 : Int32) (a2 : Int32) (σ : St) (h : VM g (d + 1) M_X4_greatestDivisor (qI F) 7 [(0, vI a1), (1, vI a2), (2, vI a2), (3, vI a1), (4, vI 0)] [] σ) : VM g (d + 1) M_X4_greatestDivisor (qI F) 0 [(0, vI a1), (1, vI a2)] [] σ := by
  refine VE_iload_n 1 dX4_greatestDivisor_0 (k := ?_)
  refine VE_istore_n (ls' := [(2, vI a2), (0, vI a1), (1, vI a2)]) dX4_greatestDivisor_1 ?_
  refine VE_iload_n 1 dX4_greatestDivisor_2 (k := ?_)
  refine VE_istore_n (ls' := [(3, vI a1), (2, vI a2), (0, vI a1), (1, vI a2)]) dX4_greatestDivisor_3 ?_
  refine VE_iconst 0 dX4_greatestDivisor_4 (k := ?_)
  refine VE_istore (ls' := [(4, vI 0), (3, vI a1), (2, vI a2), (0, vI a1), (1, vI a2)]) dX4_greatestDivisor_5 ?_
  exact VE_sub [3, 4, 2, 1, 0] rfl h
set_option maxRecDepth 20000 in
theorem S_X4_greatestDivisor_7 {g : GG} {d : Nat} {F : Int32 → St → Prop} (x0 : Int32) (x1 : Int32) (x2 : Int32) (x3 : Int32) (x4 : Int32) (σ : St) (h : ((100 ≤ x4 → F (if x2 < 1 then 1 else x2) σ) ∧ (¬ 100 ≤ x4 → ((x3 = 0 → F (if x2 < 1 then 1 else x2) σ) ∧ (¬ x3 = 0 → (¬ x3 = 0 ∧ VM g (d + 1) M_X4_greatestDivisor (qI F) 7 [(0, vI x0), (1, vI x1), (2, vI x3), (3, vI (x2 - x2 / x3 * x3)), (4, vI (x4 + 1))] [] σ)))))) : VM g (d + 1) M_X4_greatestDivisor (qI F) 7 [(0, vI x0), (1, vI x1), (2, vI x2), (3, vI x3), (4, vI x4)] [] σ := by
  refine VE_iload 4 dX4_greatestDivisor_7 (k := ?_)
  refine VE_bipush 100 dX4_greatestDivisor_9 (k := ?_)
  refine VE_icmp_ge 34 dX4_greatestDivisor_11 (fun c1 => ?_) (fun c1 => ?_)
  · refine VE_iload_n 2 dX4_greatestDivisor_34 (k := ?_)
    refine VE_iconst 1 dX4_greatestDivisor_35 (k := ?_)
    refine VE_max (i1 := 372) (i2 := 373) (i3 := 53) (i4 := 374) dX4_greatestDivisor_36 ⟨by decide +kernel, rfl⟩ ⟨by decide +kernel, rfl⟩ ⟨by decide +kernel, rfl⟩ ⟨by decide +kernel, rfl⟩ (rok2 d) rfl ?_
    exact VM_iret dX4_greatestDivisor_39 (h.1 c1)
  · refine VE_iload_n 3 dX4_greatestDivisor_14 (k := ?_)
    refine VE_if_eq 34 dX4_greatestDivisor_15 (fun c2 => ?_) (fun c2 => ?_)
    · refine VE_iload_n 2 dX4_greatestDivisor_34 (k := ?_)
      refine VE_iconst 1 dX4_greatestDivisor_35 (k := ?_)
      refine VE_max (i1 := 372) (i2 := 373) (i3 := 53) (i4 := 374) dX4_greatestDivisor_36 ⟨by decide +kernel, rfl⟩ ⟨by decide +kernel, rfl⟩ ⟨by decide +kernel, rfl⟩ ⟨by decide +kernel, rfl⟩ (rok2 d) rfl ?_
      exact VM_iret dX4_greatestDivisor_39 ((h.2 c1).1 c2)
    · refine VE_iload_n 2 dX4_greatestDivisor_18 (k := ?_)
      refine VE_iload_n 3 dX4_greatestDivisor_19 (k := ?_)
      refine VE_irem dX4_greatestDivisor_20 ((h.2 c1).2 c2).1 ?_
      refine VE_istore (ls' := [(5, vI (x2 - x2 / x3 * x3)), (0, vI x0), (1, vI x1), (2, vI x2), (3, vI x3), (4, vI x4)]) dX4_greatestDivisor_21 ?_
      refine VE_iload_n 4 dX4_greatestDivisor_23 (k := ?_)
      refine VE_istore_n (ls' := [(2, vI x3), (5, vI (x2 - x2 / x3 * x3)), (0, vI x0), (1, vI x1), (3, vI x3), (4, vI x4)]) dX4_greatestDivisor_24 ?_
      refine VE_iload 1 dX4_greatestDivisor_25 (k := ?_)
      refine VE_istore_n (ls' := [(3, vI (x2 - x2 / x3 * x3)), (2, vI x3), (5, vI (x2 - x2 / x3 * x3)), (0, vI x0), (1, vI x1), (4, vI x4)]) dX4_greatestDivisor_27 ?_
      refine VE_iinc 5 (x4 + 1) (ls' := [(4, vI (x4 + 1)), (3, vI (x2 - x2 / x3 * x3)), (2, vI x3), (5, vI (x2 - x2 / x3 * x3)), (0, vI x0), (1, vI x1)]) dX4_greatestDivisor_28 ?_
      refine VE_goto 7 dX4_greatestDivisor_31 ?_
      exact VE_sub [4, 5, 2, 1, 0] rfl ((h.2 c1).2 c2).2
theorem dX4_leaveTrace_0 : decode cX4_leaveTrace 0 = .ok (.aload_n 0, 1) := by decide +kernel
theorem dX4_leaveTrace_1 : decode cX4_leaveTrace 1 = .ok (.bipush 31, 2) := by decide +kernel
theorem dX4_leaveTrace_3 : decode cX4_leaveTrace 3 = .ok (.aload_n 0, 1) := by decide +kernel
theorem dX4_leaveTrace_4 : decode cX4_leaveTrace 4 = .ok (.getfield 179, 3) := by decide +kernel
theorem dX4_leaveTrace_7 : decode cX4_leaveTrace 7 = .ok (.imul, 1) := by decide +kernel
theorem dX4_leaveTrace_8 : decode cX4_leaveTrace 8 = .ok (.iload_n 1, 1) := by decide +kernel
theorem dX4_leaveTrace_9 : decode cX4_leaveTrace 9 = .ok (.iadd, 1) := by decide +kernel
theorem dX4_leaveTrace_10 : decode cX4_leaveTrace 10 = .ok (.putfield 179, 3) := by decide +kernel
theorem dX4_leaveTrace_13 : decode cX4_leaveTrace 13 = .ok (.return_, 1) := by decide +kernel
set_option maxRecDepth 20000 in
theorem S_X4_leaveTrace_0 {g : GG} {d : Nat} {F : St → Prop} (a1 : Int32) (σ : St) (h : F (sU σ 0 6 ((31 * (σ 0 6)) + a1))) : VM g d M_X4_leaveTrace (qV F) 0 [(0, vR 0), (1, vI a1)] [] σ := by
  refine VE_aload_n 0 dX4_leaveTrace_0 (k := ?_)
  refine VE_bipush 31 dX4_leaveTrace_1 (k := ?_)
  refine VE_aload_n 0 dX4_leaveTrace_3 (k := ?_)
  refine VE_getI dX4_leaveTrace_4 fl_X4_179 ?_
  refine VE_imul dX4_leaveTrace_7 ?_
  refine VE_iload_n 1 dX4_leaveTrace_8 (k := ?_)
  refine VE_iadd dX4_leaveTrace_9 ?_
  refine VE_put dX4_leaveTrace_10 fl_X4_179 ?_
  exact VM_vret dX4_leaveTrace_13 h
theorem dX4_headsTelling_0 : decode cX4_headsTelling 0 = .ok (.aload_n 0, 1) := by decide +kernel
theorem dX4_headsTelling_1 : decode cX4_headsTelling 1 = .ok (.iconst 1, 1) := by decide +kernel
theorem dX4_headsTelling_2 : decode cX4_headsTelling 2 = .ok (.invokevirtual 172, 3) := by decide +kernel
theorem dX4_headsTelling_5 : decode cX4_headsTelling 5 = .ok (.aload_n 0, 1) := by decide +kernel
theorem dX4_headsTelling_6 : decode cX4_headsTelling 6 = .ok (.getfield 21, 3) := by decide +kernel
theorem dX4_headsTelling_9 : decode cX4_headsTelling 9 = .ok (.getfield 71, 3) := by decide +kernel
theorem dX4_headsTelling_12 : decode cX4_headsTelling 12 = .ok (.iload_n 1, 1) := by decide +kernel
theorem dX4_headsTelling_13 : decode cX4_headsTelling 13 = .ok (.iaload, 1) := by decide +kernel
theorem dX4_headsTelling_14 : decode cX4_headsTelling 14 = .ok (.ireturn, 1) := by decide +kernel
set_option maxRecDepth 20000 in
theorem S_X4_headsTelling_0 {g : GG} {d : Nat} {F : Int32 → St → Prop} (a1 : Int32) (σ : St) (h : (ME g d M_X4_leaveTrace [vR 0, vI 1] σ (qV (fun σ2 => (vp_in a1 5 ∧ F (σ2 12 a1.toNatClampNeg) σ2))))) : VM g (d + 1) M_X4_headsTelling (qI F) 0 [(0, vR 0), (1, vI a1)] [] σ := by
  refine VE_aload_n 0 dX4_headsTelling_0 (k := ?_)
  refine VE_iconst 1 dX4_headsTelling_1 (k := ?_)
  refine VE_cVv [vI 1] dX4_headsTelling_2 ml_X4_172 h (fun σ2 h3 => ?_) (rok_D d)
  refine VE_aload_n 0 dX4_headsTelling_5 (k := ?_)
  refine VE_getR 10 dX4_headsTelling_6 fl_X4_21 ?_
  refine VE_getR 12 dX4_headsTelling_9 fl_X4_71 ?_
  refine VE_iload_n 1 dX4_headsTelling_12 (k := ?_)
  refine VE_iald dX4_headsTelling_13 h3.1 ?_
  exact VM_iret dX4_headsTelling_14 h3.2
theorem dX4_lordsTelling_0 : decode cX4_lordsTelling 0 = .ok (.aload_n 0, 1) := by decide +kernel
theorem dX4_lordsTelling_1 : decode cX4_lordsTelling 1 = .ok (.iconst 2, 1) := by decide +kernel
theorem dX4_lordsTelling_2 : decode cX4_lordsTelling 2 = .ok (.invokevirtual 172, 3) := by decide +kernel
theorem dX4_lordsTelling_5 : decode cX4_lordsTelling 5 = .ok (.aload_n 0, 1) := by decide +kernel
theorem dX4_lordsTelling_6 : decode cX4_lordsTelling 6 = .ok (.iload_n 1, 1) := by decide +kernel
theorem dX4_lordsTelling_7 : decode cX4_lordsTelling 7 = .ok (.invokevirtual 169, 3) := by decide +kernel
theorem dX4_lordsTelling_10 : decode cX4_lordsTelling 10 = .ok (.bipush 100, 2) := by decide +kernel
theorem dX4_lordsTelling_12 : decode cX4_lordsTelling 12 = .ok (.iadd, 1) := by decide +kernel
theorem dX4_lordsTelling_13 : decode cX4_lordsTelling 13 = .ok (.ireturn, 1) := by decide +kernel
set_option maxRecDepth 20000 in
theorem S_X4_lordsTelling_0 {g : GG} {d : Nat} {F : Int32 → St → Prop} (a1 : Int32) (σ : St) (h : (ME g d M_X4_leaveTrace [vR 0, vI 2] σ (qV (fun σ2 => (ME g d M_X4_headsTelling [vR 0, vI a1] σ2 (qI (fun r4 σ5 => F (r4 + 100) σ5))))))) : VM g (d + 1) M_X4_lordsTelling (qI F) 0 [(0, vR 0), (1, vI a1)] [] σ := by
  refine VE_aload_n 0 dX4_lordsTelling_0 (k := ?_)
  refine VE_iconst 2 dX4_lordsTelling_1 (k := ?_)
  refine VE_cVv [vI 2] dX4_lordsTelling_2 ml_X4_172 h (fun σ2 h3 => ?_) (rok_D d)
  refine VE_aload_n 0 dX4_lordsTelling_5 (k := ?_)
  refine VE_iload_n 1 dX4_lordsTelling_6 (k := ?_)
  refine VE_cVi [vI a1] dX4_lordsTelling_7 ml_X4_169 h3 (fun r4 σ5 h6 => ?_) (rok_D d)
  refine VE_bipush 100 dX4_lordsTelling_10 (k := ?_)
  refine VE_iadd dX4_lordsTelling_12 ?_
  exact VM_iret dX4_lordsTelling_13 h6
theorem dX4_spysTelling_0 : decode cX4_spysTelling 0 = .ok (.aload_n 0, 1) := by decide +kernel
theorem dX4_spysTelling_1 : decode cX4_spysTelling 1 = .ok (.iconst 3, 1) := by decide +kernel
theorem dX4_spysTelling_2 : decode cX4_spysTelling 2 = .ok (.invokevirtual 172, 3) := by decide +kernel
theorem dX4_spysTelling_5 : decode cX4_spysTelling 5 = .ok (.aload_n 0, 1) := by decide +kernel
theorem dX4_spysTelling_6 : decode cX4_spysTelling 6 = .ok (.iload_n 1, 1) := by decide +kernel
theorem dX4_spysTelling_7 : decode cX4_spysTelling 7 = .ok (.invokevirtual 166, 3) := by decide +kernel
theorem dX4_spysTelling_10 : decode cX4_spysTelling 10 = .ok (.istore_n 2, 1) := by decide +kernel
theorem dX4_spysTelling_11 : decode cX4_spysTelling 11 = .ok (.iload_n 2, 1) := by decide +kernel
theorem dX4_spysTelling_12 : decode cX4_spysTelling 12 = .ok (.aload_n 0, 1) := by decide +kernel
theorem dX4_spysTelling_13 : decode cX4_spysTelling 13 = .ok (.iload_n 1, 1) := by decide +kernel
theorem dX4_spysTelling_14 : decode cX4_spysTelling 14 = .ok (.invokevirtual 169, 3) := by decide +kernel
theorem dX4_spysTelling_17 : decode cX4_spysTelling 17 = .ok (.iadd, 1) := by decide +kernel
theorem dX4_spysTelling_18 : decode cX4_spysTelling 18 = .ok (.ireturn, 1) := by decide +kernel
set_option maxRecDepth 20000 in
theorem S_X4_spysTelling_0 {g : GG} {d : Nat} {F : Int32 → St → Prop} (a1 : Int32) (σ : St) (h : (ME g d M_X4_leaveTrace [vR 0, vI 3] σ (qV (fun σ2 => (ME g d M_X4_lordsTelling [vR 0, vI a1] σ2 (qI (fun r4 σ5 => (ME g d M_X4_headsTelling [vR 0, vI a1] σ5 (qI (fun r7 σ8 => F (r4 + r7) σ8)))))))))) : VM g (d + 1) M_X4_spysTelling (qI F) 0 [(0, vR 0), (1, vI a1)] [] σ := by
  refine VE_aload_n 0 dX4_spysTelling_0 (k := ?_)
  refine VE_iconst 3 dX4_spysTelling_1 (k := ?_)
  refine VE_cVv [vI 3] dX4_spysTelling_2 ml_X4_172 h (fun σ2 h3 => ?_) (rok_D d)
  refine VE_aload_n 0 dX4_spysTelling_5 (k := ?_)
  refine VE_iload_n 1 dX4_spysTelling_6 (k := ?_)
  refine VE_cVi [vI a1] dX4_spysTelling_7 ml_X4_166 h3 (fun r4 σ5 h6 => ?_) (rok_D d)
  refine VE_istore_n (ls' := [(2, vI r4), (0, vR 0), (1, vI a1)]) dX4_spysTelling_10 ?_
  refine VE_iload_n 0 dX4_spysTelling_11 (k := ?_)
  refine VE_aload_n 1 dX4_spysTelling_12 (k := ?_)
  refine VE_iload_n 2 dX4_spysTelling_13 (k := ?_)
  refine VE_cVi [vI a1] dX4_spysTelling_14 ml_X4_169 h6 (fun r7 σ8 h9 => ?_) (rok_D d)
  refine VE_iadd dX4_spysTelling_17 ?_
  exact VM_iret dX4_spysTelling_18 h9
theorem dX4_cut_0 : decode cX4_cut 0 = .ok (.iload_n 1, 1) := by decide +kernel
theorem dX4_cut_1 : decode cX4_cut 1 = .ok (.ifCond .ne 6, 3) := by decide +kernel
theorem dX4_cut_4 : decode cX4_cut 4 = .ok (.iload_n 0, 1) := by decide +kernel
theorem dX4_cut_5 : decode cX4_cut 5 = .ok (.i2b, 1) := by decide +kernel
theorem dX4_cut_6 : decode cX4_cut 6 = .ok (.ireturn, 1) := by decide +kernel
theorem dX4_cut_7 : decode cX4_cut 7 = .ok (.iload_n 1, 1) := by decide +kernel
theorem dX4_cut_8 : decode cX4_cut 8 = .ok (.iconst 1, 1) := by decide +kernel
theorem dX4_cut_9 : decode cX4_cut 9 = .ok (.if_icmp .ne 8, 3) := by decide +kernel
theorem dX4_cut_12 : decode cX4_cut 12 = .ok (.iload_n 0, 1) := by decide +kernel
theorem dX4_cut_13 : decode cX4_cut 13 = .ok (.i2s, 1) := by decide +kernel
theorem dX4_cut_14 : decode cX4_cut 14 = .ok (.goto 4, 3) := by decide +kernel
theorem dX4_cut_17 : decode cX4_cut 17 = .ok (.iload_n 0, 1) := by decide +kernel
theorem dX4_cut_18 : decode cX4_cut 18 = .ok (.ireturn, 1) := by decide +kernel
set_option maxRecDepth 20000 in
theorem S_X4_cut_0 {g : GG} {d : Nat} {F : Int32 → St → Prop} (a1 : Int32) (a2 : Int32) (σ : St) (h : ((¬ a2 = 0 → ((¬ a2 = 1 → F a1 σ) ∧ (a2 = 1 → F a1.toInt16.toInt32 σ))) ∧ (a2 = 0 → F a1.toInt8.toInt32 σ))) : VM g d M_X4_cut (qI F) 0 [(0, vI a1), (1, vI a2)] [] σ := by
  refine VE_iload_n 1 dX4_cut_0 (k := ?_)
  refine VE_if_ne 7 dX4_cut_1 (fun c1 => ?_) (fun c1 => ?_)
  · refine VE_iload_n 1 dX4_cut_7 (k := ?_)
    refine VE_iconst 1 dX4_cut_8 (k := ?_)
    refine VE_icmp_ne 17 dX4_cut_9 (fun c2 => ?_) (fun c2 => ?_)
    · refine VE_iload_n 0 dX4_cut_17 (k := ?_)
      exact VM_iret dX4_cut_18 ((h.1 c1).1 c2)
    · refine VE_iload_n 0 dX4_cut_12 (k := ?_)
      refine VE_i2s dX4_cut_13 ?_
      refine VE_goto 18 dX4_cut_14 ?_
      exact VM_iret dX4_cut_18 ((h.1 c1).2 c2)
  · refine VE_iload_n 0 dX4_cut_4 (k := ?_)
    refine VE_i2b dX4_cut_5 ?_
    exact VM_iret dX4_cut_6 (h.2 c1)
