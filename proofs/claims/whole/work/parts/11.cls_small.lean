theorem dX0_has_0 : decode cX0_has 0 = .ok (.iload_n 1, 1) := by decide +kernel
theorem dX0_has_1 : decode cX0_has 1 = .ok (.ifCond .lt 15, 3) := by decide +kernel
theorem dX0_has_4 : decode cX0_has 4 = .ok (.iload_n 1, 1) := by decide +kernel
theorem dX0_has_5 : decode cX0_has 5 = .ok (.aload_n 0, 1) := by decide +kernel
theorem dX0_has_6 : decode cX0_has 6 = .ok (.getfield 21, 3) := by decide +kernel
theorem dX0_has_9 : decode cX0_has 9 = .ok (.if_icmp .ge 7, 3) := by decide +kernel
theorem dX0_has_12 : decode cX0_has 12 = .ok (.iconst 1, 1) := by decide +kernel
theorem dX0_has_13 : decode cX0_has 13 = .ok (.goto 4, 3) := by decide +kernel
theorem dX0_has_16 : decode cX0_has 16 = .ok (.iconst 0, 1) := by decide +kernel
theorem dX0_has_17 : decode cX0_has 17 = .ok (.ireturn, 1) := by decide +kernel
set_option maxRecDepth 20000 in
theorem S_X0_has_0 {g : GG} {d : Nat} {F : Int32 → St → Prop} (a1 : Int32) (σ : St) (h : ((a1 < 0 → F 0 σ) ∧ (¬ a1 < 0 → (((σ 10 3) ≤ a1 → F 0 σ) ∧ (¬ (σ 10 3) ≤ a1 → F 1 σ))))) : VM g d M_X0_has (qI F) 0 [(0, vR 10), (1, vI a1)] [] σ := by
  refine VE_iload_n 1 dX0_has_0 (k := ?_)
  refine VE_if_lt 16 dX0_has_1 (fun c1 => ?_) (fun c1 => ?_)
  · refine VE_iconst 0 dX0_has_16 (k := ?_)
    exact VM_zret dX0_has_17 (h.1 c1) (by decide)
  · refine VE_iload_n 1 dX0_has_4 (k := ?_)
    refine VE_aload_n 0 dX0_has_5 (k := ?_)
    refine VE_getI dX0_has_6 fl_X0_21 ?_
    refine VE_icmp_ge 16 dX0_has_9 (fun c2 => ?_) (fun c2 => ?_)
    · refine VE_iconst 0 dX0_has_16 (k := ?_)
      exact VM_zret dX0_has_17 ((h.2 c1).1 c2) (by decide)
    · refine VE_iconst 1 dX0_has_12 (k := ?_)
      refine VE_goto 17 dX0_has_13 ?_
      exact VM_zret dX0_has_17 ((h.2 c1).2 c2) (by decide)
theorem dX0_gather_0 : decode cX0_gather 0 = .ok (.aload_n 0, 1) := by decide +kernel
theorem dX0_gather_1 : decode cX0_gather 1 = .ok (.iload_n 3, 1) := by decide +kernel
theorem dX0_gather_2 : decode cX0_gather 2 = .ok (.iconst 5, 1) := by decide +kernel
theorem dX0_gather_3 : decode cX0_gather 3 = .ok (.invokestatic 25, 3) := by decide +kernel
theorem dX0_gather_6 : decode cX0_gather 6 = .ok (.putfield 21, 3) := by decide +kernel
theorem dX0_gather_9 : decode cX0_gather 9 = .ok (.iconst 0, 1) := by decide +kernel
theorem dX0_gather_10 : decode cX0_gather 10 = .ok (.istore 4, 2) := by decide +kernel
theorem dX0_gather_12 : decode cX0_gather 12 = .ok (.iload 4, 2) := by decide +kernel
theorem dX0_gather_14 : decode cX0_gather 14 = .ok (.aload_n 0, 1) := by decide +kernel
theorem dX0_gather_15 : decode cX0_gather 15 = .ok (.getfield 21, 3) := by decide +kernel
theorem dX0_gather_18 : decode cX0_gather 18 = .ok (.if_icmp .ge 74, 3) := by decide +kernel
theorem dX0_gather_21 : decode cX0_gather 21 = .ok (.iload_n 2, 1) := by decide +kernel
theorem dX0_gather_22 : decode cX0_gather 22 = .ok (.iload 4, 2) := by decide +kernel
theorem dX0_gather_24 : decode cX0_gather 24 = .ok (.iconst 4, 1) := by decide +kernel
theorem dX0_gather_25 : decode cX0_gather 25 = .ok (.imul, 1) := by decide +kernel
theorem dX0_gather_26 : decode cX0_gather 26 = .ok (.iadd, 1) := by decide +kernel
theorem dX0_gather_27 : decode cX0_gather 27 = .ok (.iconst 2, 1) := by decide +kernel
theorem dX0_gather_28 : decode cX0_gather 28 = .ok (.iadd, 1) := by decide +kernel
theorem dX0_gather_29 : decode cX0_gather 29 = .ok (.istore 5, 2) := by decide +kernel
theorem dX0_gather_31 : decode cX0_gather 31 = .ok (.aload_n 0, 1) := by decide +kernel
theorem dX0_gather_32 : decode cX0_gather 32 = .ok (.getfield 9, 3) := by decide +kernel
theorem dX0_gather_35 : decode cX0_gather 35 = .ok (.iload 4, 2) := by decide +kernel
theorem dX0_gather_37 : decode cX0_gather 37 = .ok (.aload_n 1, 1) := by decide +kernel
theorem dX0_gather_38 : decode cX0_gather 38 = .ok (.getfield 31, 3) := by decide +kernel
theorem dX0_gather_41 : decode cX0_gather 41 = .ok (.iload 5, 2) := by decide +kernel
theorem dX0_gather_43 : decode cX0_gather 43 = .ok (.iaload, 1) := by decide +kernel
theorem dX0_gather_44 : decode cX0_gather 44 = .ok (.invokestatic 36, 3) := by decide +kernel
theorem dX0_gather_47 : decode cX0_gather 47 = .ok (.iastore, 1) := by decide +kernel
theorem dX0_gather_48 : decode cX0_gather 48 = .ok (.aload_n 0, 1) := by decide +kernel
theorem dX0_gather_49 : decode cX0_gather 49 = .ok (.getfield 15, 3) := by decide +kernel
theorem dX0_gather_52 : decode cX0_gather 52 = .ok (.iload 4, 2) := by decide +kernel
theorem dX0_gather_54 : decode cX0_gather 54 = .ok (.aload_n 1, 1) := by decide +kernel
theorem dX0_gather_55 : decode cX0_gather 55 = .ok (.getfield 31, 3) := by decide +kernel
theorem dX0_gather_58 : decode cX0_gather 58 = .ok (.iload 5, 2) := by decide +kernel
theorem dX0_gather_60 : decode cX0_gather 60 = .ok (.iconst 1, 1) := by decide +kernel
theorem dX0_gather_61 : decode cX0_gather 61 = .ok (.iadd, 1) := by decide +kernel
theorem dX0_gather_62 : decode cX0_gather 62 = .ok (.iaload, 1) := by decide +kernel
theorem dX0_gather_63 : decode cX0_gather 63 = .ok (.bipush 48, 2) := by decide +kernel
theorem dX0_gather_65 : decode cX0_gather 65 = .ok (.isub, 1) := by decide +kernel
theorem dX0_gather_66 : decode cX0_gather 66 = .ok (.iastore, 1) := by decide +kernel
theorem dX0_gather_67 : decode cX0_gather 67 = .ok (.aload_n 0, 1) := by decide +kernel
theorem dX0_gather_68 : decode cX0_gather 68 = .ok (.getfield 18, 3) := by decide +kernel
theorem dX0_gather_71 : decode cX0_gather 71 = .ok (.iload 4, 2) := by decide +kernel
theorem dX0_gather_73 : decode cX0_gather 73 = .ok (.aload_n 1, 1) := by decide +kernel
theorem dX0_gather_74 : decode cX0_gather 74 = .ok (.getfield 31, 3) := by decide +kernel
theorem dX0_gather_77 : decode cX0_gather 77 = .ok (.iload 5, 2) := by decide +kernel
theorem dX0_gather_79 : decode cX0_gather 79 = .ok (.iconst 2, 1) := by decide +kernel
theorem dX0_gather_80 : decode cX0_gather 80 = .ok (.iadd, 1) := by decide +kernel
theorem dX0_gather_81 : decode cX0_gather 81 = .ok (.iaload, 1) := by decide +kernel
theorem dX0_gather_82 : decode cX0_gather 82 = .ok (.bipush 48, 2) := by decide +kernel
theorem dX0_gather_84 : decode cX0_gather 84 = .ok (.isub, 1) := by decide +kernel
theorem dX0_gather_85 : decode cX0_gather 85 = .ok (.iastore, 1) := by decide +kernel
theorem dX0_gather_86 : decode cX0_gather 86 = .ok (.iinc 4 1, 3) := by decide +kernel
theorem dX0_gather_89 : decode cX0_gather 89 = .ok (.goto (-77), 3) := by decide +kernel
theorem dX0_gather_92 : decode cX0_gather 92 = .ok (.return_, 1) := by decide +kernel
set_option maxRecDepth 20000 in
theorem S_X0_gather_0 {g : GG} {d : Nat} {F : St → Prop} {k : Nat} (hk : k < 4) (a2 : Int32) (a3 : Int32) (σ : St) (h : VM g (d + 1) M_X0_gather (qV F) 12 [(0, vR 10), (1, vR (2 + k)), (2, vI a2), (3, vI a3), (4, vI 0)] [] (sU σ 10 3 (if 5 < a3 then 5 else a3))) : VM g (d + 1) M_X0_gather (qV F) 0 [(0, vR 10), (1, vR (2 + k)), (2, vI a2), (3, vI a3)] [] σ := by
  refine VE_aload_n 0 dX0_gather_0 (k := ?_)
  refine VE_iload_n 3 dX0_gather_1 (k := ?_)
  refine VE_iconst 5 dX0_gather_2 (k := ?_)
  refine VE_min (i1 := 224) (i2 := 225) (i3 := 53) (i4 := 226) dX0_gather_3 ⟨by decide +kernel, rfl⟩ ⟨by decide +kernel, rfl⟩ ⟨by decide +kernel, rfl⟩ ⟨by decide +kernel, rfl⟩ (rok2 d) rfl ?_
  refine VE_put dX0_gather_6 fl_X0_21 ?_
  refine VE_iconst 0 dX0_gather_9 (k := ?_)
  refine VE_istore (ls' := [(4, vI 0), (0, vR 10), (1, vR (2 + k)), (2, vI a2), (3, vI a3)]) dX0_gather_10 ?_
  exact VE_sub [1, 2, 3, 4, 0] rfl h
set_option maxRecDepth 20000 in
theorem S_X0_gather_12 {g : GG} {d : Nat} {F : St → Prop} {k : Nat} (hk : k < 4) (x2 : Int32) (x3 : Int32) (x4 : Int32) (σ : St) (h : (((σ 10 3) ≤ x4 → F σ) ∧ (¬ (σ 10 3) ≤ x4 → (vp_in ((x2 + (x4 * 4)) + 2) 60 ∧ (ME g d M_X4_kindOfLetter [vI (σ (6 + k) (((x2 + (x4 * 4)) + 2).toNatClampNeg))] σ (qI (fun r2 σ3 => (vp_in x4 5 ∧ (vp_in (((x2 + (x4 * 4)) + 2) + 1) 60 ∧ (vp_in (((x2 + (x4 * 4)) + 2) + 2) 60 ∧ VM g (d + 1) M_X0_gather (qV F) 12 [(0, vR 10), (1, vR (2 + k)), (2, vI x2), (3, vI x3), (4, vI (x4 + 1))] [] (sU (sU (sU σ3 11 x4.toNatClampNeg r2) 12 x4.toNatClampNeg (((sU σ3 11 x4.toNatClampNeg r2) (6 + k) ((((x2 + (x4 * 4)) + 2) + 1).toNatClampNeg)) - 48)) 13 x4.toNatClampNeg (((sU (sU σ3 11 x4.toNatClampNeg r2) 12 x4.toNatClampNeg (((sU σ3 11 x4.toNatClampNeg r2) (6 + k) ((((x2 + (x4 * 4)) + 2) + 1).toNatClampNeg)) - 48)) (6 + k) ((((x2 + (x4 * 4)) + 2) + 2).toNatClampNeg)) - 48)))))))))))) : VM g (d + 1) M_X0_gather (qV F) 12 [(0, vR 10), (1, vR (2 + k)), (2, vI x2), (3, vI x3), (4, vI x4)] [] σ := by
  refine VE_iload 4 dX0_gather_12 (k := ?_)
  refine VE_aload_n 0 dX0_gather_14 (k := ?_)
  refine VE_getI dX0_gather_15 fl_X0_21 ?_
  refine VE_icmp_ge 92 dX0_gather_18 (fun c1 => ?_) (fun c1 => ?_)
  · exact VM_vret dX0_gather_92 (h.1 c1)
  · refine VE_iload_n 2 dX0_gather_21 (k := ?_)
    refine VE_iload 4 dX0_gather_22 (k := ?_)
    refine VE_iconst 4 dX0_gather_24 (k := ?_)
    refine VE_imul dX0_gather_25 ?_
    refine VE_iadd dX0_gather_26 ?_
    refine VE_iconst 2 dX0_gather_27 (k := ?_)
    refine VE_iadd dX0_gather_28 ?_
    refine VE_istore (ls' := [(5, vI ((x2 + (x4 * 4)) + 2)), (0, vR 10), (1, vR (2 + k)), (2, vI x2), (3, vI x3), (4, vI x4)]) dX0_gather_29 ?_
    refine VE_aload_n 1 dX0_gather_31 (k := ?_)
    refine VE_getR 11 dX0_gather_32 fl_X0_9 ?_
    refine VE_iload 5 dX0_gather_35 (k := ?_)
    refine VE_aload_n 2 dX0_gather_37 (k := ?_)
    refine VE_getR (6 + k) dX0_gather_38 fl_X0_31 ?_ (sh_f0 hk)
    refine VE_iload 0 dX0_gather_41 (k := ?_)
    refine VE_iald dX0_gather_43 (sh_in hk (h.2 c1).1) ?_ (sh_A hk)
    refine VE_cSi [vI (σ (6 + k) (((x2 + (x4 * 4)) + 2).toNatClampNeg))] dX0_gather_44 ml_X0_36 (h.2 c1).2 (fun r2 σ3 h4 => ?_) (rok_D d)
    refine VE_iast dX0_gather_47 h4.1 ?_
    refine VE_aload_n 1 dX0_gather_48 (k := ?_)
    refine VE_getR 12 dX0_gather_49 fl_X0_15 ?_
    refine VE_iload 5 dX0_gather_52 (k := ?_)
    refine VE_aload_n 2 dX0_gather_54 (k := ?_)
    refine VE_getR (6 + k) dX0_gather_55 fl_X0_31 ?_ (sh_f0 hk)
    refine VE_iload 0 dX0_gather_58 (k := ?_)
    refine VE_iconst 1 dX0_gather_60 (k := ?_)
    refine VE_iadd dX0_gather_61 ?_
    refine VE_iald dX0_gather_62 (sh_in hk h4.2.1) ?_ (sh_A hk)
    refine VE_bipush 48 dX0_gather_63 (k := ?_)
    refine VE_isub dX0_gather_65 ?_
    refine VE_iast dX0_gather_66 h4.1 ?_
    refine VE_aload_n 1 dX0_gather_67 (k := ?_)
    refine VE_getR 13 dX0_gather_68 fl_X0_18 ?_
    refine VE_iload 5 dX0_gather_71 (k := ?_)
    refine VE_aload_n 2 dX0_gather_73 (k := ?_)
    refine VE_getR (6 + k) dX0_gather_74 fl_X0_31 ?_ (sh_f0 hk)
    refine VE_iload 0 dX0_gather_77 (k := ?_)
    refine VE_iconst 2 dX0_gather_79 (k := ?_)
    refine VE_iadd dX0_gather_80 ?_
    refine VE_iald dX0_gather_81 (sh_in hk h4.2.2.1) ?_ (sh_A hk)
    refine VE_bipush 48 dX0_gather_82 (k := ?_)
    refine VE_isub dX0_gather_84 ?_
    refine VE_iast dX0_gather_85 h4.1 ?_
    refine VE_iinc 5 (x4 + 1) (ls' := [(4, vI (x4 + 1)), (5, vI ((x2 + (x4 * 4)) + 2)), (0, vR 10), (1, vR (2 + k)), (2, vI x2), (3, vI x3)]) dX0_gather_86 ?_
    refine VE_goto 12 dX0_gather_89 ?_
    exact VE_sub [2, 3, 4, 5, 0] rfl h4.2.2.2
theorem dX1_open_0 : decode cX1_open 0 = .ok (.aload_n 0, 1) := by decide +kernel
theorem dX1_open_1 : decode cX1_open 1 = .ok (.aload_n 1, 1) := by decide +kernel
theorem dX1_open_2 : decode cX1_open 2 = .ok (.getfield 25, 3) := by decide +kernel
theorem dX1_open_5 : decode cX1_open 5 = .ok (.putfield 30, 3) := by decide +kernel
theorem dX1_open_8 : decode cX1_open 8 = .ok (.aload_n 0, 1) := by decide +kernel
theorem dX1_open_9 : decode cX1_open 9 = .ok (.bipush (-9), 2) := by decide +kernel
theorem dX1_open_11 : decode cX1_open 11 = .ok (.putfield 21, 3) := by decide +kernel
theorem dX1_open_14 : decode cX1_open 14 = .ok (.iconst 0, 1) := by decide +kernel
theorem dX1_open_15 : decode cX1_open 15 = .ok (.istore_n 2, 1) := by decide +kernel
theorem dX1_open_16 : decode cX1_open 16 = .ok (.iload_n 2, 1) := by decide +kernel
theorem dX1_open_17 : decode cX1_open 17 = .ok (.aload_n 0, 1) := by decide +kernel
theorem dX1_open_18 : decode cX1_open 18 = .ok (.getfield 30, 3) := by decide +kernel
theorem dX1_open_21 : decode cX1_open 21 = .ok (.if_icmp .ge 44, 3) := by decide +kernel
theorem dX1_open_24 : decode cX1_open 24 = .ok (.aload_n 0, 1) := by decide +kernel
theorem dX1_open_25 : decode cX1_open 25 = .ok (.getfield 9, 3) := by decide +kernel
theorem dX1_open_28 : decode cX1_open 28 = .ok (.iload_n 2, 1) := by decide +kernel
theorem dX1_open_29 : decode cX1_open 29 = .ok (.iload_n 2, 1) := by decide +kernel
theorem dX1_open_30 : decode cX1_open 30 = .ok (.iastore, 1) := by decide +kernel
theorem dX1_open_31 : decode cX1_open 31 = .ok (.aload_n 0, 1) := by decide +kernel
theorem dX1_open_32 : decode cX1_open 32 = .ok (.getfield 15, 3) := by decide +kernel
theorem dX1_open_35 : decode cX1_open 35 = .ok (.iload_n 2, 1) := by decide +kernel
theorem dX1_open_36 : decode cX1_open 36 = .ok (.iconst 0, 1) := by decide +kernel
theorem dX1_open_37 : decode cX1_open 37 = .ok (.iastore, 1) := by decide +kernel
theorem dX1_open_38 : decode cX1_open 38 = .ok (.aload_n 0, 1) := by decide +kernel
theorem dX1_open_39 : decode cX1_open 39 = .ok (.getfield 18, 3) := by decide +kernel
theorem dX1_open_42 : decode cX1_open 42 = .ok (.iload_n 2, 1) := by decide +kernel
theorem dX1_open_43 : decode cX1_open 43 = .ok (.aload_n 1, 1) := by decide +kernel
theorem dX1_open_44 : decode cX1_open 44 = .ok (.getfield 33, 3) := by decide +kernel
theorem dX1_open_47 : decode cX1_open 47 = .ok (.iload_n 2, 1) := by decide +kernel
theorem dX1_open_48 : decode cX1_open 48 = .ok (.iaload, 1) := by decide +kernel
theorem dX1_open_49 : decode cX1_open 49 = .ok (.aload_n 1, 1) := by decide +kernel
theorem dX1_open_50 : decode cX1_open 50 = .ok (.getfield 36, 3) := by decide +kernel
theorem dX1_open_53 : decode cX1_open 53 = .ok (.iload_n 2, 1) := by decide +kernel
theorem dX1_open_54 : decode cX1_open 54 = .ok (.iaload, 1) := by decide +kernel
theorem dX1_open_55 : decode cX1_open 55 = .ok (.invokestatic 39, 3) := by decide +kernel
theorem dX1_open_58 : decode cX1_open 58 = .ok (.iastore, 1) := by decide +kernel
theorem dX1_open_59 : decode cX1_open 59 = .ok (.iinc 2 1, 3) := by decide +kernel
theorem dX1_open_62 : decode cX1_open 62 = .ok (.goto (-46), 3) := by decide +kernel
theorem dX1_open_65 : decode cX1_open 65 = .ok (.return_, 1) := by decide +kernel
set_option maxRecDepth 20000 in
theorem S_X1_open_0 {g : GG} {d : Nat} {F : St → Prop}  (σ : St) (h : VM g (d + 1) M_X1_open (qV F) 16 [(0, vR 14), (1, vR 10), (2, vI 0)] [] (sU (sU σ 14 3 (σ 10 3)) 14 4 (-9))) : VM g (d + 1) M_X1_open (qV F) 0 [(0, vR 14), (1, vR 10)] [] σ := by
  refine VE_aload_n 0 dX1_open_0 (k := ?_)
  refine VE_aload_n 1 dX1_open_1 (k := ?_)
  refine VE_getI dX1_open_2 fl_X1_25 ?_
  refine VE_put dX1_open_5 fl_X1_30 ?_
  refine VE_aload_n 0 dX1_open_8 (k := ?_)
  refine VE_bipush (-9) dX1_open_9 (k := ?_)
  refine VE_put dX1_open_11 fl_X1_21 ?_
  refine VE_iconst 0 dX1_open_14 (k := ?_)
  refine VE_istore_n (ls' := [(2, vI 0), (0, vR 14), (1, vR 10)]) dX1_open_15 ?_
  exact VE_sub [1, 2, 0] rfl h
set_option maxRecDepth 20000 in
theorem S_X1_open_16 {g : GG} {d : Nat} {F : St → Prop} (x2 : Int32) (σ : St) (h : (((σ 14 3) ≤ x2 → F σ) ∧ (¬ (σ 14 3) ≤ x2 → (vp_in x2 5 ∧ (ME g d M_X4_lasting [vI (σ 11 x2.toNatClampNeg), vI (σ 12 x2.toNatClampNeg)] (sU (sU σ 15 x2.toNatClampNeg x2) 16 x2.toNatClampNeg 0) (qI (fun r2 σ3 => VM g (d + 1) M_X1_open (qV F) 16 [(0, vR 14), (1, vR 10), (2, vI (x2 + 1))] [] (sU σ3 17 x2.toNatClampNeg r2)))))))) : VM g (d + 1) M_X1_open (qV F) 16 [(0, vR 14), (1, vR 10), (2, vI x2)] [] σ := by
  refine VE_iload_n 2 dX1_open_16 (k := ?_)
  refine VE_aload_n 0 dX1_open_17 (k := ?_)
  refine VE_getI dX1_open_18 fl_X1_30 ?_
  refine VE_icmp_ge 65 dX1_open_21 (fun c1 => ?_) (fun c1 => ?_)
  · exact VM_vret dX1_open_65 (h.1 c1)
  · refine VE_aload_n 0 dX1_open_24 (k := ?_)
    refine VE_getR 15 dX1_open_25 fl_X1_9 ?_
    refine VE_iload_n 2 dX1_open_28 (k := ?_)
    refine VE_iload_n 2 dX1_open_29 (k := ?_)
    refine VE_iast dX1_open_30 (h.2 c1).1 ?_
    refine VE_aload_n 0 dX1_open_31 (k := ?_)
    refine VE_getR 16 dX1_open_32 fl_X1_15 ?_
    refine VE_iload_n 2 dX1_open_35 (k := ?_)
    refine VE_iconst 0 dX1_open_36 (k := ?_)
    refine VE_iast dX1_open_37 (h.2 c1).1 ?_
    refine VE_aload_n 0 dX1_open_38 (k := ?_)
    refine VE_getR 17 dX1_open_39 fl_X1_18 ?_
    refine VE_iload_n 2 dX1_open_42 (k := ?_)
    refine VE_aload_n 1 dX1_open_43 (k := ?_)
    refine VE_getR 11 dX1_open_44 fl_X1_33 ?_
    refine VE_iload_n 2 dX1_open_47 (k := ?_)
    refine VE_iald dX1_open_48 (h.2 c1).1 ?_
    refine VE_aload_n 1 dX1_open_49 (k := ?_)
    refine VE_getR 12 dX1_open_50 fl_X1_36 ?_
    refine VE_iload_n 2 dX1_open_53 (k := ?_)
    refine VE_iald dX1_open_54 (h.2 c1).1 ?_
    refine VE_cSi [vI (σ 11 x2.toNatClampNeg), vI (σ 12 x2.toNatClampNeg)] dX1_open_55 ml_X1_39 (h.2 c1).2 (fun r2 σ3 h4 => ?_) (rok_D d)
    refine VE_iast dX1_open_58 (h.2 c1).1 ?_
    refine VE_iinc 2 (x2 + 1) (ls' := [(2, vI (x2 + 1)), (0, vR 14), (1, vR 10)]) dX1_open_59 ?_
    refine VE_goto 16 dX1_open_62 ?_
    exact VE_sub [1, 2, 0] rfl h4
theorem dX1_receives_0 : decode cX1_receives 0 = .ok (.aload_n 0, 1) := by decide +kernel
theorem dX1_receives_1 : decode cX1_receives 1 = .ok (.getfield 21, 3) := by decide +kernel
theorem dX1_receives_4 : decode cX1_receives 4 = .ok (.bipush (-9), 2) := by decide +kernel
theorem dX1_receives_6 : decode cX1_receives 6 = .ok (.if_icmp .eq 39, 3) := by decide +kernel
theorem dX1_receives_9 : decode cX1_receives 9 = .ok (.aload_n 0, 1) := by decide +kernel
theorem dX1_receives_10 : decode cX1_receives 10 = .ok (.getfield 15, 3) := by decide +kernel
theorem dX1_receives_13 : decode cX1_receives 13 = .ok (.aload_n 0, 1) := by decide +kernel
theorem dX1_receives_14 : decode cX1_receives 14 = .ok (.getfield 21, 3) := by decide +kernel
theorem dX1_receives_17 : decode cX1_receives 17 = .ok (.iaload, 1) := by decide +kernel
theorem dX1_receives_18 : decode cX1_receives 18 = .ok (.aload_n 0, 1) := by decide +kernel
theorem dX1_receives_19 : decode cX1_receives 19 = .ok (.getfield 18, 3) := by decide +kernel
theorem dX1_receives_22 : decode cX1_receives 22 = .ok (.aload_n 0, 1) := by decide +kernel
theorem dX1_receives_23 : decode cX1_receives 23 = .ok (.getfield 21, 3) := by decide +kernel
theorem dX1_receives_26 : decode cX1_receives 26 = .ok (.iaload, 1) := by decide +kernel
theorem dX1_receives_27 : decode cX1_receives 27 = .ok (.if_icmp .lt 5, 3) := by decide +kernel
theorem dX1_receives_30 : decode cX1_receives 30 = .ok (.iconst 0, 1) := by decide +kernel
theorem dX1_receives_31 : decode cX1_receives 31 = .ok (.ireturn, 1) := by decide +kernel
theorem dX1_receives_32 : decode cX1_receives 32 = .ok (.aload_n 0, 1) := by decide +kernel
theorem dX1_receives_33 : decode cX1_receives 33 = .ok (.getfield 15, 3) := by decide +kernel
theorem dX1_receives_36 : decode cX1_receives 36 = .ok (.aload_n 0, 1) := by decide +kernel
theorem dX1_receives_37 : decode cX1_receives 37 = .ok (.getfield 21, 3) := by decide +kernel
theorem dX1_receives_40 : decode cX1_receives 40 = .ok (.dup2, 1) := by decide +kernel
theorem dX1_receives_41 : decode cX1_receives 41 = .ok (.iaload, 1) := by decide +kernel
theorem dX1_receives_42 : decode cX1_receives 42 = .ok (.iconst 1, 1) := by decide +kernel
theorem dX1_receives_43 : decode cX1_receives 43 = .ok (.iadd, 1) := by decide +kernel
theorem dX1_receives_44 : decode cX1_receives 44 = .ok (.iastore, 1) := by decide +kernel
theorem dX1_receives_45 : decode cX1_receives 45 = .ok (.aload_n 0, 1) := by decide +kernel
theorem dX1_receives_46 : decode cX1_receives 46 = .ok (.iload_n 1, 1) := by decide +kernel
theorem dX1_receives_47 : decode cX1_receives 47 = .ok (.invokevirtual 43, 3) := by decide +kernel
theorem dX1_receives_50 : decode cX1_receives 50 = .ok (.iconst 1, 1) := by decide +kernel
theorem dX1_receives_51 : decode cX1_receives 51 = .ok (.ireturn, 1) := by decide +kernel
set_option maxRecDepth 20000 in
theorem S_X1_receives_0 {g : GG} {d : Nat} {F : Int32 → St → Prop} (a1 : Int32) (σ : St) (h : (((σ 14 4) = (-9) → (ME g d M_X1_changePlaces [vR 14, vI a1] σ (qV (fun σ3 => F 1 σ3)))) ∧ (¬ (σ 14 4) = (-9) → (vp_in (σ 14 4) 5 ∧ (((σ 16 ((σ 14 4).toNatClampNeg)) < (σ 17 ((σ 14 4).toNatClampNeg)) → (ME g d M_X1_changePlaces [vR 14, vI a1] (sU σ 16 ((σ 14 4).toNatClampNeg) ((σ 16 ((σ 14 4).toNatClampNeg)) + 1)) (qV (fun σ7 => F 1 σ7)))) ∧ (¬ (σ 16 ((σ 14 4).toNatClampNeg)) < (σ 17 ((σ 14 4).toNatClampNeg)) → F 0 σ)))))) : VM g (d + 1) M_X1_receives (qI F) 0 [(0, vR 14), (1, vI a1)] [] σ := by
  refine VE_aload_n 0 dX1_receives_0 (k := ?_)
  refine VE_getI dX1_receives_1 fl_X1_21 ?_
  refine VE_bipush (-9) dX1_receives_4 (k := ?_)
  refine VE_icmp_eq 45 dX1_receives_6 (fun c1 => ?_) (fun c1 => ?_)
  · refine VE_aload_n 0 dX1_receives_45 (k := ?_)
    refine VE_iload_n 1 dX1_receives_46 (k := ?_)
    refine VE_cVv [vI a1] dX1_receives_47 ml_X1_43 (h.1 c1) (fun σ3 h4 => ?_) (rok_D d)
    refine VE_iconst 1 dX1_receives_50 (k := ?_)
    exact VM_zret dX1_receives_51 h4 (by decide)
  · refine VE_aload_n 0 dX1_receives_9 (k := ?_)
    refine VE_getR 16 dX1_receives_10 fl_X1_15 ?_
    refine VE_aload_n 0 dX1_receives_13 (k := ?_)
    refine VE_getI dX1_receives_14 fl_X1_21 ?_
    refine VE_iald dX1_receives_17 (h.2 c1).1 ?_
    refine VE_aload_n 0 dX1_receives_18 (k := ?_)
    refine VE_getR 17 dX1_receives_19 fl_X1_18 ?_
    refine VE_aload_n 0 dX1_receives_22 (k := ?_)
    refine VE_getI dX1_receives_23 fl_X1_21 ?_
    refine VE_iald dX1_receives_26 (h.2 c1).1 ?_
    refine VE_icmp_lt 32 dX1_receives_27 (fun c5 => ?_) (fun c5 => ?_)
    · refine VE_aload_n 0 dX1_receives_32 (k := ?_)
      refine VE_getR 16 dX1_receives_33 fl_X1_15 ?_
      refine VE_aload_n 0 dX1_receives_36 (k := ?_)
      refine VE_getI dX1_receives_37 fl_X1_21 ?_
      refine VE_dup2 dX1_receives_40 (k := ?_)
      refine VE_iald dX1_receives_41 (h.2 c1).1 ?_
      refine VE_iconst 1 dX1_receives_42 (k := ?_)
      refine VE_iadd dX1_receives_43 ?_
      refine VE_iast dX1_receives_44 (h.2 c1).1 ?_
      refine VE_aload_n 0 dX1_receives_45 (k := ?_)
      refine VE_iload_n 1 dX1_receives_46 (k := ?_)
      refine VE_cVv [vI a1] dX1_receives_47 ml_X1_43 ((h.2 c1).2.1 c5) (fun σ7 h8 => ?_) (rok_D d)
      refine VE_iconst 1 dX1_receives_50 (k := ?_)
      exact VM_zret dX1_receives_51 h8 (by decide)
    · refine VE_iconst 0 dX1_receives_30 (k := ?_)
      exact VM_zret dX1_receives_31 ((h.2 c1).2.2 c5) (by decide)
theorem dX1_takesBack_0 : decode cX1_takesBack 0 = .ok (.aload_n 0, 1) := by decide +kernel
theorem dX1_takesBack_1 : decode cX1_takesBack 1 = .ok (.iload_n 1, 1) := by decide +kernel
theorem dX1_takesBack_2 : decode cX1_takesBack 2 = .ok (.invokevirtual 43, 3) := by decide +kernel
theorem dX1_takesBack_5 : decode cX1_takesBack 5 = .ok (.aload_n 0, 1) := by decide +kernel
theorem dX1_takesBack_6 : decode cX1_takesBack 6 = .ok (.getfield 21, 3) := by decide +kernel
theorem dX1_takesBack_9 : decode cX1_takesBack 9 = .ok (.bipush (-9), 2) := by decide +kernel
theorem dX1_takesBack_11 : decode cX1_takesBack 11 = .ok (.if_icmp .eq 16, 3) := by decide +kernel
theorem dX1_takesBack_14 : decode cX1_takesBack 14 = .ok (.aload_n 0, 1) := by decide +kernel
theorem dX1_takesBack_15 : decode cX1_takesBack 15 = .ok (.getfield 15, 3) := by decide +kernel
theorem dX1_takesBack_18 : decode cX1_takesBack 18 = .ok (.aload_n 0, 1) := by decide +kernel
theorem dX1_takesBack_19 : decode cX1_takesBack 19 = .ok (.getfield 21, 3) := by decide +kernel
theorem dX1_takesBack_22 : decode cX1_takesBack 22 = .ok (.dup2, 1) := by decide +kernel
theorem dX1_takesBack_23 : decode cX1_takesBack 23 = .ok (.iaload, 1) := by decide +kernel
theorem dX1_takesBack_24 : decode cX1_takesBack 24 = .ok (.iconst 1, 1) := by decide +kernel
theorem dX1_takesBack_25 : decode cX1_takesBack 25 = .ok (.isub, 1) := by decide +kernel
theorem dX1_takesBack_26 : decode cX1_takesBack 26 = .ok (.iastore, 1) := by decide +kernel
theorem dX1_takesBack_27 : decode cX1_takesBack 27 = .ok (.return_, 1) := by decide +kernel
set_option maxRecDepth 20000 in
theorem S_X1_takesBack_0 {g : GG} {d : Nat} {F : St → Prop} (a1 : Int32) (σ : St) (h : (ME g d M_X1_changePlaces [vR 14, vI a1] σ (qV (fun σ2 => (((σ2 14 4) = (-9) → F σ2) ∧ (¬ (σ2 14 4) = (-9) → (vp_in (σ2 14 4) 5 ∧ F (sU σ2 16 ((σ2 14 4).toNatClampNeg) ((σ2 16 ((σ2 14 4).toNatClampNeg)) - 1))))))))) : VM g (d + 1) M_X1_takesBack (qV F) 0 [(0, vR 14), (1, vI a1)] [] σ := by
  refine VE_aload_n 0 dX1_takesBack_0 (k := ?_)
  refine VE_iload_n 1 dX1_takesBack_1 (k := ?_)
  refine VE_cVv [vI a1] dX1_takesBack_2 ml_X1_43 h (fun σ2 h3 => ?_) (rok_D d)
  refine VE_aload_n 0 dX1_takesBack_5 (k := ?_)
  refine VE_getI dX1_takesBack_6 fl_X1_21 ?_
  refine VE_bipush (-9) dX1_takesBack_9 (k := ?_)
  refine VE_icmp_eq 27 dX1_takesBack_11 (fun c4 => ?_) (fun c4 => ?_)
  · exact VM_vret dX1_takesBack_27 (h3.1 c4)
  · refine VE_aload_n 0 dX1_takesBack_14 (k := ?_)
    refine VE_getR 16 dX1_takesBack_15 fl_X1_15 ?_
    refine VE_aload_n 0 dX1_takesBack_18 (k := ?_)
    refine VE_getI dX1_takesBack_19 fl_X1_21 ?_
    refine VE_dup2 dX1_takesBack_22 (k := ?_)
    refine VE_iald dX1_takesBack_23 (h3.2 c4).1 ?_
    refine VE_iconst 1 dX1_takesBack_24 (k := ?_)
    refine VE_isub dX1_takesBack_25 ?_
    refine VE_iast dX1_takesBack_26 (h3.2 c4).1 ?_
    exact VM_vret dX1_takesBack_27 (h3.2 c4).2
theorem dX1_changePlaces_0 : decode cX1_changePlaces 0 = .ok (.aload_n 0, 1) := by decide +kernel
theorem dX1_changePlaces_1 : decode cX1_changePlaces 1 = .ok (.getfield 9, 3) := by decide +kernel
theorem dX1_changePlaces_4 : decode cX1_changePlaces 4 = .ok (.iload_n 1, 1) := by decide +kernel
theorem dX1_changePlaces_5 : decode cX1_changePlaces 5 = .ok (.iaload, 1) := by decide +kernel
theorem dX1_changePlaces_6 : decode cX1_changePlaces 6 = .ok (.istore_n 2, 1) := by decide +kernel
theorem dX1_changePlaces_7 : decode cX1_changePlaces 7 = .ok (.aload_n 0, 1) := by decide +kernel
theorem dX1_changePlaces_8 : decode cX1_changePlaces 8 = .ok (.getfield 9, 3) := by decide +kernel
theorem dX1_changePlaces_11 : decode cX1_changePlaces 11 = .ok (.iload_n 1, 1) := by decide +kernel
theorem dX1_changePlaces_12 : decode cX1_changePlaces 12 = .ok (.aload_n 0, 1) := by decide +kernel
theorem dX1_changePlaces_13 : decode cX1_changePlaces 13 = .ok (.getfield 21, 3) := by decide +kernel
theorem dX1_changePlaces_16 : decode cX1_changePlaces 16 = .ok (.iastore, 1) := by decide +kernel
theorem dX1_changePlaces_17 : decode cX1_changePlaces 17 = .ok (.aload_n 0, 1) := by decide +kernel
theorem dX1_changePlaces_18 : decode cX1_changePlaces 18 = .ok (.iload_n 2, 1) := by decide +kernel
theorem dX1_changePlaces_19 : decode cX1_changePlaces 19 = .ok (.putfield 21, 3) := by decide +kernel
theorem dX1_changePlaces_22 : decode cX1_changePlaces 22 = .ok (.return_, 1) := by decide +kernel
set_option maxRecDepth 20000 in
theorem S_X1_changePlaces_0 {g : GG} {d : Nat} {F : St → Prop} (a1 : Int32) (σ : St) (h : (vp_in a1 5 ∧ F (sU (sU σ 15 a1.toNatClampNeg (σ 14 4)) 14 4 (σ 15 a1.toNatClampNeg)))) : VM g d M_X1_changePlaces (qV F) 0 [(0, vR 14), (1, vI a1)] [] σ := by
  refine VE_aload_n 0 dX1_changePlaces_0 (k := ?_)
  refine VE_getR 15 dX1_changePlaces_1 fl_X1_9 ?_
  refine VE_iload_n 1 dX1_changePlaces_4 (k := ?_)
  refine VE_iald dX1_changePlaces_5 h.1 ?_
  refine VE_istore_n (ls' := [(2, vI (σ 15 a1.toNatClampNeg)), (0, vR 14), (1, vI a1)]) dX1_changePlaces_6 ?_
  refine VE_aload_n 1 dX1_changePlaces_7 (k := ?_)
  refine VE_getR 15 dX1_changePlaces_8 fl_X1_9 ?_
  refine VE_iload_n 2 dX1_changePlaces_11 (k := ?_)
  refine VE_aload_n 1 dX1_changePlaces_12 (k := ?_)
  refine VE_getI dX1_changePlaces_13 fl_X1_21 ?_
  refine VE_iast dX1_changePlaces_16 h.1 ?_
  refine VE_aload_n 1 dX1_changePlaces_17 (k := ?_)
  refine VE_iload_n 0 dX1_changePlaces_18 (k := ?_)
  refine VE_put dX1_changePlaces_19 fl_X1_21 ?_
  exact VM_vret dX1_changePlaces_22 h.2
theorem dX1_ownWearers_0 : decode cX1_ownWearers 0 = .ok (.iconst 0, 1) := by decide +kernel
theorem dX1_ownWearers_1 : decode cX1_ownWearers 1 = .ok (.istore_n 1, 1) := by decide +kernel
theorem dX1_ownWearers_2 : decode cX1_ownWearers 2 = .ok (.iconst 0, 1) := by decide +kernel
theorem dX1_ownWearers_3 : decode cX1_ownWearers 3 = .ok (.istore_n 2, 1) := by decide +kernel
theorem dX1_ownWearers_4 : decode cX1_ownWearers 4 = .ok (.iload_n 2, 1) := by decide +kernel
theorem dX1_ownWearers_5 : decode cX1_ownWearers 5 = .ok (.aload_n 0, 1) := by decide +kernel
theorem dX1_ownWearers_6 : decode cX1_ownWearers 6 = .ok (.getfield 30, 3) := by decide +kernel
theorem dX1_ownWearers_9 : decode cX1_ownWearers 9 = .ok (.if_icmp .ge 25, 3) := by decide +kernel
theorem dX1_ownWearers_12 : decode cX1_ownWearers 12 = .ok (.aload_n 0, 1) := by decide +kernel
theorem dX1_ownWearers_13 : decode cX1_ownWearers 13 = .ok (.getfield 9, 3) := by decide +kernel
theorem dX1_ownWearers_16 : decode cX1_ownWearers 16 = .ok (.iload_n 2, 1) := by decide +kernel
theorem dX1_ownWearers_17 : decode cX1_ownWearers 17 = .ok (.iaload, 1) := by decide +kernel
theorem dX1_ownWearers_18 : decode cX1_ownWearers 18 = .ok (.iload_n 2, 1) := by decide +kernel
theorem dX1_ownWearers_19 : decode cX1_ownWearers 19 = .ok (.if_icmp .ne 9, 3) := by decide +kernel
theorem dX1_ownWearers_22 : decode cX1_ownWearers 22 = .ok (.iload_n 1, 1) := by decide +kernel
theorem dX1_ownWearers_23 : decode cX1_ownWearers 23 = .ok (.iconst 1, 1) := by decide +kernel
theorem dX1_ownWearers_24 : decode cX1_ownWearers 24 = .ok (.iload_n 2, 1) := by decide +kernel
theorem dX1_ownWearers_25 : decode cX1_ownWearers 25 = .ok (.ishl, 1) := by decide +kernel
theorem dX1_ownWearers_26 : decode cX1_ownWearers 26 = .ok (.ior, 1) := by decide +kernel
theorem dX1_ownWearers_27 : decode cX1_ownWearers 27 = .ok (.istore_n 1, 1) := by decide +kernel
theorem dX1_ownWearers_28 : decode cX1_ownWearers 28 = .ok (.iinc 2 1, 3) := by decide +kernel
theorem dX1_ownWearers_31 : decode cX1_ownWearers 31 = .ok (.goto (-27), 3) := by decide +kernel
theorem dX1_ownWearers_34 : decode cX1_ownWearers 34 = .ok (.iload_n 1, 1) := by decide +kernel
theorem dX1_ownWearers_35 : decode cX1_ownWearers 35 = .ok (.ireturn, 1) := by decide +kernel
set_option maxRecDepth 20000 in
theorem S_X1_ownWearers_0 {g : GG} {d : Nat} {F : Int32 → St → Prop}  (σ : St) (h : VM g d M_X1_ownWearers (qI F) 4 [(0, vR 14), (1, vI 0), (2, vI 0)] [] σ) : VM g d M_X1_ownWearers (qI F) 0 [(0, vR 14)] [] σ := by
  refine VE_iconst 0 dX1_ownWearers_0 (k := ?_)
  refine VE_istore_n (ls' := [(1, vI 0), (0, vR 14)]) dX1_ownWearers_1 ?_
  refine VE_iconst 0 dX1_ownWearers_2 (k := ?_)
  refine VE_istore_n (ls' := [(2, vI 0), (1, vI 0), (0, vR 14)]) dX1_ownWearers_3 ?_
  exact VE_sub [2, 1, 0] rfl h
set_option maxRecDepth 20000 in
theorem S_X1_ownWearers_4 {g : GG} {d : Nat} {F : Int32 → St → Prop} (x1 : Int32) (x2 : Int32) (σ : St) (h : (((σ 14 3) ≤ x2 → F x1 σ) ∧ (¬ (σ 14 3) ≤ x2 → (vp_in x2 5 ∧ ((¬ (σ 15 x2.toNatClampNeg) = x2 → VM g d M_X1_ownWearers (qI F) 4 [(0, vR 14), (1, vI x1), (2, vI (x2 + 1))] [] σ) ∧ ((σ 15 x2.toNatClampNeg) = x2 → VM g d M_X1_ownWearers (qI F) 4 [(0, vR 14), (1, vI (x1 ||| (1 <<< (x2 &&& 31)))), (2, vI (x2 + 1))] [] σ)))))) : VM g d M_X1_ownWearers (qI F) 4 [(0, vR 14), (1, vI x1), (2, vI x2)] [] σ := by
  refine VE_iload_n 2 dX1_ownWearers_4 (k := ?_)
  refine VE_aload_n 0 dX1_ownWearers_5 (k := ?_)
  refine VE_getI dX1_ownWearers_6 fl_X1_30 ?_
  refine VE_icmp_ge 34 dX1_ownWearers_9 (fun c1 => ?_) (fun c1 => ?_)
  · refine VE_iload_n 1 dX1_ownWearers_34 (k := ?_)
    exact VM_iret dX1_ownWearers_35 (h.1 c1)
  · refine VE_aload_n 0 dX1_ownWearers_12 (k := ?_)
    refine VE_getR 15 dX1_ownWearers_13 fl_X1_9 ?_
    refine VE_iload_n 2 dX1_ownWearers_16 (k := ?_)
    refine VE_iald dX1_ownWearers_17 (h.2 c1).1 ?_
    refine VE_iload_n 2 dX1_ownWearers_18 (k := ?_)
    refine VE_icmp_ne 28 dX1_ownWearers_19 (fun c2 => ?_) (fun c2 => ?_)
    · refine VE_iinc 2 (x2 + 1) (ls' := [(2, vI (x2 + 1)), (0, vR 14), (1, vI x1)]) dX1_ownWearers_28 ?_
      refine VE_goto 4 dX1_ownWearers_31 ?_
      exact VE_sub [1, 2, 0] rfl ((h.2 c1).2.1 c2)
    · refine VE_iload_n 1 dX1_ownWearers_22 (k := ?_)
      refine VE_iconst 1 dX1_ownWearers_23 (k := ?_)
      refine VE_iload_n 2 dX1_ownWearers_24 (k := ?_)
      refine VE_ishl dX1_ownWearers_25 ?_
      refine VE_ior dX1_ownWearers_26 ?_
      refine VE_istore_n (ls' := [(1, vI (x1 ||| (1 <<< (x2 &&& 31)))), (0, vR 14), (2, vI x2)]) dX1_ownWearers_27 ?_
      refine VE_iinc 2 (x2 + 1) (ls' := [(2, vI (x2 + 1)), (1, vI (x1 ||| (1 <<< (x2 &&& 31)))), (0, vR 14)]) dX1_ownWearers_28 ?_
      refine VE_goto 4 dX1_ownWearers_31 ?_
      exact VE_sub [2, 1, 0] rfl ((h.2 c1).2.2 c2)
theorem dX1_visitsHome_0 : decode cX1_visitsHome 0 = .ok (.iconst 0, 1) := by decide +kernel
theorem dX1_visitsHome_1 : decode cX1_visitsHome 1 = .ok (.istore_n 1, 1) := by decide +kernel
theorem dX1_visitsHome_2 : decode cX1_visitsHome 2 = .ok (.iload_n 1, 1) := by decide +kernel
theorem dX1_visitsHome_3 : decode cX1_visitsHome 3 = .ok (.bipush 10, 2) := by decide +kernel
theorem dX1_visitsHome_5 : decode cX1_visitsHome 5 = .ok (.if_icmp .ge 43, 3) := by decide +kernel
theorem dX1_visitsHome_8 : decode cX1_visitsHome 8 = .ok (.aload_n 0, 1) := by decide +kernel
theorem dX1_visitsHome_9 : decode cX1_visitsHome 9 = .ok (.getfield 21, 3) := by decide +kernel
theorem dX1_visitsHome_12 : decode cX1_visitsHome 12 = .ok (.bipush (-9), 2) := by decide +kernel
theorem dX1_visitsHome_14 : decode cX1_visitsHome 14 = .ok (.if_icmp .eq 10, 3) := by decide +kernel
theorem dX1_visitsHome_17 : decode cX1_visitsHome 17 = .ok (.aload_n 0, 1) := by decide +kernel
theorem dX1_visitsHome_18 : decode cX1_visitsHome 18 = .ok (.getfield 21, 3) := by decide +kernel
theorem dX1_visitsHome_21 : decode cX1_visitsHome 21 = .ok (.goto 7, 3) := by decide +kernel
theorem dX1_visitsHome_24 : decode cX1_visitsHome 24 = .ok (.aload_n 0, 1) := by decide +kernel
theorem dX1_visitsHome_25 : decode cX1_visitsHome 25 = .ok (.invokevirtual 47, 3) := by decide +kernel
theorem dX1_visitsHome_28 : decode cX1_visitsHome 28 = .ok (.istore_n 2, 1) := by decide +kernel
theorem dX1_visitsHome_29 : decode cX1_visitsHome 29 = .ok (.iload_n 2, 1) := by decide +kernel
theorem dX1_visitsHome_30 : decode cX1_visitsHome 30 = .ok (.bipush (-9), 2) := by decide +kernel
theorem dX1_visitsHome_32 : decode cX1_visitsHome 32 = .ok (.if_icmp .ne 5, 3) := by decide +kernel
theorem dX1_visitsHome_35 : decode cX1_visitsHome 35 = .ok (.iload_n 1, 1) := by decide +kernel
theorem dX1_visitsHome_36 : decode cX1_visitsHome 36 = .ok (.ireturn, 1) := by decide +kernel
theorem dX1_visitsHome_37 : decode cX1_visitsHome 37 = .ok (.aload_n 0, 1) := by decide +kernel
theorem dX1_visitsHome_38 : decode cX1_visitsHome 38 = .ok (.iload_n 2, 1) := by decide +kernel
theorem dX1_visitsHome_39 : decode cX1_visitsHome 39 = .ok (.invokevirtual 43, 3) := by decide +kernel
theorem dX1_visitsHome_42 : decode cX1_visitsHome 42 = .ok (.iinc 1 1, 3) := by decide +kernel
theorem dX1_visitsHome_45 : decode cX1_visitsHome 45 = .ok (.goto (-43), 3) := by decide +kernel
theorem dX1_visitsHome_48 : decode cX1_visitsHome 48 = .ok (.bipush 10, 2) := by decide +kernel
theorem dX1_visitsHome_50 : decode cX1_visitsHome 50 = .ok (.ireturn, 1) := by decide +kernel
set_option maxRecDepth 20000 in
theorem S_X1_visitsHome_0 {g : GG} {d : Nat} {F : Int32 → St → Prop}  (σ : St) (h : VM g (d + 1) M_X1_visitsHome (qI F) 2 [(0, vR 14), (1, vI 0)] [] σ) : VM g (d + 1) M_X1_visitsHome (qI F) 0 [(0, vR 14)] [] σ := by
  refine VE_iconst 0 dX1_visitsHome_0 (k := ?_)
  refine VE_istore_n (ls' := [(1, vI 0), (0, vR 14)]) dX1_visitsHome_1 ?_
  exact VE_sub [1, 0] rfl h
set_option maxRecDepth 20000 in
theorem S_X1_visitsHome_2 {g : GG} {d : Nat} {F : Int32 → St → Prop} (x1 : Int32) (σ : St) (h : ((10 ≤ x1 → F 10 σ) ∧ (¬ 10 ≤ x1 → (((σ 14 4) = (-9) → (ME g d M_X1_firstAstray [vR 14] σ (qI (fun r3 σ4 => ((¬ r3 = (-9) → (ME g d M_X1_changePlaces [vR 14, vI r3] σ4 (qV (fun σ8 => VM g (d + 1) M_X1_visitsHome (qI F) 2 [(0, vR 14), (1, vI (x1 + 1))] [] σ8)))) ∧ (r3 = (-9) → F x1 σ4)))))) ∧ (¬ (σ 14 4) = (-9) → ((¬ (σ 14 4) = (-9) → (ME g d M_X1_changePlaces [vR 14, vI (σ 14 4)] σ (qV (fun σ12 => VM g (d + 1) M_X1_visitsHome (qI F) 2 [(0, vR 14), (1, vI (x1 + 1))] [] σ12)))) ∧ ((σ 14 4) = (-9) → F x1 σ))))))) : VM g (d + 1) M_X1_visitsHome (qI F) 2 [(0, vR 14), (1, vI x1)] [] σ := by
  refine VE_iload_n 1 dX1_visitsHome_2 (k := ?_)
  refine VE_bipush 10 dX1_visitsHome_3 (k := ?_)
  refine VE_icmp_ge 48 dX1_visitsHome_5 (fun c1 => ?_) (fun c1 => ?_)
  · refine VE_bipush 10 dX1_visitsHome_48 (k := ?_)
    exact VM_iret dX1_visitsHome_50 (h.1 c1)
  · refine VE_aload_n 0 dX1_visitsHome_8 (k := ?_)
    refine VE_getI dX1_visitsHome_9 fl_X1_21 ?_
    refine VE_bipush (-9) dX1_visitsHome_12 (k := ?_)
    refine VE_icmp_eq 24 dX1_visitsHome_14 (fun c2 => ?_) (fun c2 => ?_)
    · refine VE_aload_n 0 dX1_visitsHome_24 (k := ?_)
      refine VE_cVi [] dX1_visitsHome_25 ml_X1_47 ((h.2 c1).1 c2) (fun r3 σ4 h5 => ?_) (rok_D d)
      refine VE_istore_n (ls' := [(2, vI r3), (0, vR 14), (1, vI x1)]) dX1_visitsHome_28 ?_
      refine VE_iload_n 0 dX1_visitsHome_29 (k := ?_)
      refine VE_bipush (-9) dX1_visitsHome_30 (k := ?_)
      refine VE_icmp_ne 37 dX1_visitsHome_32 (fun c6 => ?_) (fun c6 => ?_)
      · refine VE_aload_n 1 dX1_visitsHome_37 (k := ?_)
        refine VE_iload_n 0 dX1_visitsHome_38 (k := ?_)
        refine VE_cVv [vI r3] dX1_visitsHome_39 ml_X1_43 (h5.1 c6) (fun σ8 h9 => ?_) (rok_D d)
        refine VE_iinc 2 (x1 + 1) (ls' := [(1, vI (x1 + 1)), (2, vI r3), (0, vR 14)]) dX1_visitsHome_42 ?_
        refine VE_goto 2 dX1_visitsHome_45 ?_
        exact VE_sub [2, 0] rfl h9
      · refine VE_iload_n 2 dX1_visitsHome_35 (k := ?_)
        exact VM_iret dX1_visitsHome_36 (h5.2 c6)
    · refine VE_aload_n 0 dX1_visitsHome_17 (k := ?_)
      refine VE_getI dX1_visitsHome_18 fl_X1_21 ?_
      refine VE_goto 28 dX1_visitsHome_21 ?_
      refine VE_istore_n (ls' := [(2, vI (σ 14 4)), (0, vR 14), (1, vI x1)]) dX1_visitsHome_28 ?_
      refine VE_iload_n 0 dX1_visitsHome_29 (k := ?_)
      refine VE_bipush (-9) dX1_visitsHome_30 (k := ?_)
      refine VE_icmp_ne 37 dX1_visitsHome_32 (fun c10 => ?_) (fun c10 => ?_)
      · refine VE_aload_n 1 dX1_visitsHome_37 (k := ?_)
        refine VE_iload_n 0 dX1_visitsHome_38 (k := ?_)
        refine VE_cVv [vI (σ 14 4)] dX1_visitsHome_39 ml_X1_43 (((h.2 c1).2 c2).1 c10) (fun σ12 h13 => ?_) (rok_D d)
        refine VE_iinc 2 (x1 + 1) (ls' := [(1, vI (x1 + 1)), (2, vI (σ 14 4)), (0, vR 14)]) dX1_visitsHome_42 ?_
        refine VE_goto 2 dX1_visitsHome_45 ?_
        exact VE_sub [2, 0] rfl h13
      · refine VE_iload_n 2 dX1_visitsHome_35 (k := ?_)
        exact VM_iret dX1_visitsHome_36 (((h.2 c1).2 c2).2 c10)
theorem dX1_firstAstray_0 : decode cX1_firstAstray 0 = .ok (.iconst 0, 1) := by decide +kernel
theorem dX1_firstAstray_1 : decode cX1_firstAstray 1 = .ok (.istore_n 1, 1) := by decide +kernel
theorem dX1_firstAstray_2 : decode cX1_firstAstray 2 = .ok (.iload_n 1, 1) := by decide +kernel
theorem dX1_firstAstray_3 : decode cX1_firstAstray 3 = .ok (.aload_n 0, 1) := by decide +kernel
theorem dX1_firstAstray_4 : decode cX1_firstAstray 4 = .ok (.getfield 30, 3) := by decide +kernel
theorem dX1_firstAstray_7 : decode cX1_firstAstray 7 = .ok (.if_icmp .ge 21, 3) := by decide +kernel
theorem dX1_firstAstray_10 : decode cX1_firstAstray 10 = .ok (.aload_n 0, 1) := by decide +kernel
theorem dX1_firstAstray_11 : decode cX1_firstAstray 11 = .ok (.getfield 9, 3) := by decide +kernel
theorem dX1_firstAstray_14 : decode cX1_firstAstray 14 = .ok (.iload_n 1, 1) := by decide +kernel
theorem dX1_firstAstray_15 : decode cX1_firstAstray 15 = .ok (.iaload, 1) := by decide +kernel
theorem dX1_firstAstray_16 : decode cX1_firstAstray 16 = .ok (.iload_n 1, 1) := by decide +kernel
theorem dX1_firstAstray_17 : decode cX1_firstAstray 17 = .ok (.if_icmp .eq 5, 3) := by decide +kernel
theorem dX1_firstAstray_20 : decode cX1_firstAstray 20 = .ok (.iload_n 1, 1) := by decide +kernel
theorem dX1_firstAstray_21 : decode cX1_firstAstray 21 = .ok (.ireturn, 1) := by decide +kernel
theorem dX1_firstAstray_22 : decode cX1_firstAstray 22 = .ok (.iinc 1 1, 3) := by decide +kernel
theorem dX1_firstAstray_25 : decode cX1_firstAstray 25 = .ok (.goto (-23), 3) := by decide +kernel
theorem dX1_firstAstray_28 : decode cX1_firstAstray 28 = .ok (.bipush (-9), 2) := by decide +kernel
theorem dX1_firstAstray_30 : decode cX1_firstAstray 30 = .ok (.ireturn, 1) := by decide +kernel
set_option maxRecDepth 20000 in
theorem S_X1_firstAstray_0 {g : GG} {d : Nat} {F : Int32 → St → Prop}  (σ : St) (h : VM g d M_X1_firstAstray (qI F) 2 [(0, vR 14), (1, vI 0)] [] σ) : VM g d M_X1_firstAstray (qI F) 0 [(0, vR 14)] [] σ := by
  refine VE_iconst 0 dX1_firstAstray_0 (k := ?_)
  refine VE_istore_n (ls' := [(1, vI 0), (0, vR 14)]) dX1_firstAstray_1 ?_
  exact VE_sub [1, 0] rfl h
set_option maxRecDepth 20000 in
theorem S_X1_firstAstray_2 {g : GG} {d : Nat} {F : Int32 → St → Prop} (x1 : Int32) (σ : St) (h : (((σ 14 3) ≤ x1 → F (-9) σ) ∧ (¬ (σ 14 3) ≤ x1 → (vp_in x1 5 ∧ (((σ 15 x1.toNatClampNeg) = x1 → VM g d M_X1_firstAstray (qI F) 2 [(0, vR 14), (1, vI (x1 + 1))] [] σ) ∧ (¬ (σ 15 x1.toNatClampNeg) = x1 → F x1 σ)))))) : VM g d M_X1_firstAstray (qI F) 2 [(0, vR 14), (1, vI x1)] [] σ := by
  refine VE_iload_n 1 dX1_firstAstray_2 (k := ?_)
  refine VE_aload_n 0 dX1_firstAstray_3 (k := ?_)
  refine VE_getI dX1_firstAstray_4 fl_X1_30 ?_
  refine VE_icmp_ge 28 dX1_firstAstray_7 (fun c1 => ?_) (fun c1 => ?_)
  · refine VE_bipush (-9) dX1_firstAstray_28 (k := ?_)
    exact VM_iret dX1_firstAstray_30 (h.1 c1)
  · refine VE_aload_n 0 dX1_firstAstray_10 (k := ?_)
    refine VE_getR 15 dX1_firstAstray_11 fl_X1_9 ?_
    refine VE_iload_n 1 dX1_firstAstray_14 (k := ?_)
    refine VE_iald dX1_firstAstray_15 (h.2 c1).1 ?_
    refine VE_iload_n 1 dX1_firstAstray_16 (k := ?_)
    refine VE_icmp_eq 22 dX1_firstAstray_17 (fun c2 => ?_) (fun c2 => ?_)
    · refine VE_iinc 1 (x1 + 1) (ls' := [(1, vI (x1 + 1)), (0, vR 14)]) dX1_firstAstray_22 ?_
      refine VE_goto 2 dX1_firstAstray_25 ?_
      exact VE_sub [1, 0] rfl ((h.2 c1).2.1 c2)
    · refine VE_iload_n 1 dX1_firstAstray_20 (k := ?_)
      exact VM_iret dX1_firstAstray_21 ((h.2 c1).2.2 c2)
theorem dX1_mostTaken_0 : decode cX1_mostTaken 0 = .ok (.bipush (-9), 2) := by decide +kernel
theorem dX1_mostTaken_2 : decode cX1_mostTaken 2 = .ok (.istore_n 1, 1) := by decide +kernel
theorem dX1_mostTaken_3 : decode cX1_mostTaken 3 = .ok (.iconst 0, 1) := by decide +kernel
theorem dX1_mostTaken_4 : decode cX1_mostTaken 4 = .ok (.istore_n 2, 1) := by decide +kernel
theorem dX1_mostTaken_5 : decode cX1_mostTaken 5 = .ok (.iload_n 2, 1) := by decide +kernel
theorem dX1_mostTaken_6 : decode cX1_mostTaken 6 = .ok (.aload_n 0, 1) := by decide +kernel
theorem dX1_mostTaken_7 : decode cX1_mostTaken 7 = .ok (.getfield 30, 3) := by decide +kernel
theorem dX1_mostTaken_10 : decode cX1_mostTaken 10 = .ok (.if_icmp .ge 36, 3) := by decide +kernel
theorem dX1_mostTaken_13 : decode cX1_mostTaken 13 = .ok (.aload_n 0, 1) := by decide +kernel
theorem dX1_mostTaken_14 : decode cX1_mostTaken 14 = .ok (.getfield 15, 3) := by decide +kernel
theorem dX1_mostTaken_17 : decode cX1_mostTaken 17 = .ok (.iload_n 2, 1) := by decide +kernel
theorem dX1_mostTaken_18 : decode cX1_mostTaken 18 = .ok (.iaload, 1) := by decide +kernel
theorem dX1_mostTaken_19 : decode cX1_mostTaken 19 = .ok (.iload_n 1, 1) := by decide +kernel
theorem dX1_mostTaken_20 : decode cX1_mostTaken 20 = .ok (.bipush (-9), 2) := by decide +kernel
theorem dX1_mostTaken_22 : decode cX1_mostTaken 22 = .ok (.if_icmp .ne 7, 3) := by decide +kernel
theorem dX1_mostTaken_25 : decode cX1_mostTaken 25 = .ok (.iconst 0, 1) := by decide +kernel
theorem dX1_mostTaken_26 : decode cX1_mostTaken 26 = .ok (.goto 9, 3) := by decide +kernel
theorem dX1_mostTaken_29 : decode cX1_mostTaken 29 = .ok (.aload_n 0, 1) := by decide +kernel
theorem dX1_mostTaken_30 : decode cX1_mostTaken 30 = .ok (.getfield 15, 3) := by decide +kernel
theorem dX1_mostTaken_33 : decode cX1_mostTaken 33 = .ok (.iload_n 1, 1) := by decide +kernel
theorem dX1_mostTaken_34 : decode cX1_mostTaken 34 = .ok (.iaload, 1) := by decide +kernel
theorem dX1_mostTaken_35 : decode cX1_mostTaken 35 = .ok (.if_icmp .le 5, 3) := by decide +kernel
theorem dX1_mostTaken_38 : decode cX1_mostTaken 38 = .ok (.iload_n 2, 1) := by decide +kernel
theorem dX1_mostTaken_39 : decode cX1_mostTaken 39 = .ok (.istore_n 1, 1) := by decide +kernel
theorem dX1_mostTaken_40 : decode cX1_mostTaken 40 = .ok (.iinc 2 1, 3) := by decide +kernel
theorem dX1_mostTaken_43 : decode cX1_mostTaken 43 = .ok (.goto (-38), 3) := by decide +kernel
theorem dX1_mostTaken_46 : decode cX1_mostTaken 46 = .ok (.iload_n 1, 1) := by decide +kernel
theorem dX1_mostTaken_47 : decode cX1_mostTaken 47 = .ok (.ireturn, 1) := by decide +kernel
set_option maxRecDepth 20000 in
theorem S_X1_mostTaken_0 {g : GG} {d : Nat} {F : Int32 → St → Prop}  (σ : St) (h : VM g d M_X1_mostTaken (qI F) 5 [(0, vR 14), (1, vI (-9)), (2, vI 0)] [] σ) : VM g d M_X1_mostTaken (qI F) 0 [(0, vR 14)] [] σ := by
  refine VE_bipush (-9) dX1_mostTaken_0 (k := ?_)
  refine VE_istore_n (ls' := [(1, vI (-9)), (0, vR 14)]) dX1_mostTaken_2 ?_
  refine VE_iconst 0 dX1_mostTaken_3 (k := ?_)
  refine VE_istore_n (ls' := [(2, vI 0), (1, vI (-9)), (0, vR 14)]) dX1_mostTaken_4 ?_
  exact VE_sub [2, 1, 0] rfl h
set_option maxRecDepth 20000 in
theorem S_X1_mostTaken_5 {g : GG} {d : Nat} {F : Int32 → St → Prop} (x1 : Int32) (x2 : Int32) (σ : St) (h : (((σ 14 3) ≤ x2 → F x1 σ) ∧ (¬ (σ 14 3) ≤ x2 → (vp_in x2 5 ∧ ((¬ x1 = (-9) → (vp_in x1 5 ∧ (((σ 16 x2.toNatClampNeg) ≤ (σ 16 x1.toNatClampNeg) → VM g d M_X1_mostTaken (qI F) 5 [(0, vR 14), (1, vI x1), (2, vI (x2 + 1))] [] σ) ∧ (¬ (σ 16 x2.toNatClampNeg) ≤ (σ 16 x1.toNatClampNeg) → VM g d M_X1_mostTaken (qI F) 5 [(0, vR 14), (1, vI x2), (2, vI (x2 + 1))] [] σ)))) ∧ (x1 = (-9) → (((σ 16 x2.toNatClampNeg) ≤ 0 → VM g d M_X1_mostTaken (qI F) 5 [(0, vR 14), (1, vI x1), (2, vI (x2 + 1))] [] σ) ∧ (¬ (σ 16 x2.toNatClampNeg) ≤ 0 → VM g d M_X1_mostTaken (qI F) 5 [(0, vR 14), (1, vI x2), (2, vI (x2 + 1))] [] σ)))))))) : VM g d M_X1_mostTaken (qI F) 5 [(0, vR 14), (1, vI x1), (2, vI x2)] [] σ := by
  refine VE_iload_n 2 dX1_mostTaken_5 (k := ?_)
  refine VE_aload_n 0 dX1_mostTaken_6 (k := ?_)
  refine VE_getI dX1_mostTaken_7 fl_X1_30 ?_
  refine VE_icmp_ge 46 dX1_mostTaken_10 (fun c1 => ?_) (fun c1 => ?_)
  · refine VE_iload_n 1 dX1_mostTaken_46 (k := ?_)
    exact VM_iret dX1_mostTaken_47 (h.1 c1)
  · refine VE_aload_n 0 dX1_mostTaken_13 (k := ?_)
    refine VE_getR 16 dX1_mostTaken_14 fl_X1_15 ?_
    refine VE_iload_n 2 dX1_mostTaken_17 (k := ?_)
    refine VE_iald dX1_mostTaken_18 (h.2 c1).1 ?_
    refine VE_iload_n 1 dX1_mostTaken_19 (k := ?_)
    refine VE_bipush (-9) dX1_mostTaken_20 (k := ?_)
    refine VE_icmp_ne 29 dX1_mostTaken_22 (fun c2 => ?_) (fun c2 => ?_)
    · refine VE_aload_n 0 dX1_mostTaken_29 (k := ?_)
      refine VE_getR 16 dX1_mostTaken_30 fl_X1_15 ?_
      refine VE_iload_n 1 dX1_mostTaken_33 (k := ?_)
      refine VE_iald dX1_mostTaken_34 ((h.2 c1).2.1 c2).1 ?_
      refine VE_icmp_le 40 dX1_mostTaken_35 (fun c3 => ?_) (fun c3 => ?_)
      · refine VE_iinc 2 (x2 + 1) (ls' := [(2, vI (x2 + 1)), (0, vR 14), (1, vI x1)]) dX1_mostTaken_40 ?_
        refine VE_goto 5 dX1_mostTaken_43 ?_
        exact VE_sub [1, 2, 0] rfl (((h.2 c1).2.1 c2).2.1 c3)
      · refine VE_iload_n 2 dX1_mostTaken_38 (k := ?_)
        refine VE_istore_n (ls' := [(1, vI x2), (0, vR 14), (2, vI x2)]) dX1_mostTaken_39 ?_
        refine VE_iinc 2 (x2 + 1) (ls' := [(2, vI (x2 + 1)), (1, vI x2), (0, vR 14)]) dX1_mostTaken_40 ?_
        refine VE_goto 5 dX1_mostTaken_43 ?_
        exact VE_sub [2, 1, 0] rfl (((h.2 c1).2.1 c2).2.2 c3)
    · refine VE_iconst 0 dX1_mostTaken_25 (k := ?_)
      refine VE_goto 35 dX1_mostTaken_26 ?_
      refine VE_icmp_le 40 dX1_mostTaken_35 (fun c4 => ?_) (fun c4 => ?_)
      · refine VE_iinc 2 (x2 + 1) (ls' := [(2, vI (x2 + 1)), (0, vR 14), (1, vI x1)]) dX1_mostTaken_40 ?_
        refine VE_goto 5 dX1_mostTaken_43 ?_
        exact VE_sub [1, 2, 0] rfl (((h.2 c1).2.2 c2).1 c4)
      · refine VE_iload_n 2 dX1_mostTaken_38 (k := ?_)
        refine VE_istore_n (ls' := [(1, vI x2), (0, vR 14), (2, vI x2)]) dX1_mostTaken_39 ?_
        refine VE_iinc 2 (x2 + 1) (ls' := [(2, vI (x2 + 1)), (1, vI x2), (0, vR 14)]) dX1_mostTaken_40 ?_
        refine VE_goto 5 dX1_mostTaken_43 ?_
        exact VE_sub [2, 1, 0] rfl (((h.2 c1).2.2 c2).2 c4)
theorem dX1_fooling_0 : decode cX1_fooling 0 = .ok (.iconst 0, 1) := by decide +kernel
theorem dX1_fooling_1 : decode cX1_fooling 1 = .ok (.istore_n 3, 1) := by decide +kernel
theorem dX1_fooling_2 : decode cX1_fooling 2 = .ok (.iconst 0, 1) := by decide +kernel
theorem dX1_fooling_3 : decode cX1_fooling 3 = .ok (.istore 4, 2) := by decide +kernel
theorem dX1_fooling_5 : decode cX1_fooling 5 = .ok (.iload 4, 2) := by decide +kernel
theorem dX1_fooling_7 : decode cX1_fooling 7 = .ok (.aload_n 0, 1) := by decide +kernel
theorem dX1_fooling_8 : decode cX1_fooling 8 = .ok (.getfield 30, 3) := by decide +kernel
theorem dX1_fooling_11 : decode cX1_fooling 11 = .ok (.if_icmp .ge 48, 3) := by decide +kernel
theorem dX1_fooling_14 : decode cX1_fooling 14 = .ok (.iload 4, 2) := by decide +kernel
theorem dX1_fooling_16 : decode cX1_fooling 16 = .ok (.iload_n 1, 1) := by decide +kernel
theorem dX1_fooling_17 : decode cX1_fooling 17 = .ok (.if_icmp .eq 36, 3) := by decide +kernel
theorem dX1_fooling_20 : decode cX1_fooling 20 = .ok (.iload 4, 2) := by decide +kernel
theorem dX1_fooling_22 : decode cX1_fooling 22 = .ok (.iload_n 2, 1) := by decide +kernel
theorem dX1_fooling_23 : decode cX1_fooling 23 = .ok (.if_icmp .eq 30, 3) := by decide +kernel
theorem dX1_fooling_26 : decode cX1_fooling 26 = .ok (.aload_n 0, 1) := by decide +kernel
theorem dX1_fooling_27 : decode cX1_fooling 27 = .ok (.getfield 9, 3) := by decide +kernel
theorem dX1_fooling_30 : decode cX1_fooling 30 = .ok (.iload 4, 2) := by decide +kernel
theorem dX1_fooling_32 : decode cX1_fooling 32 = .ok (.iaload, 1) := by decide +kernel
theorem dX1_fooling_33 : decode cX1_fooling 33 = .ok (.bipush (-9), 2) := by decide +kernel
theorem dX1_fooling_35 : decode cX1_fooling 35 = .ok (.if_icmp .eq 18, 3) := by decide +kernel
theorem dX1_fooling_38 : decode cX1_fooling 38 = .ok (.aload_n 0, 1) := by decide +kernel
theorem dX1_fooling_39 : decode cX1_fooling 39 = .ok (.getfield 9, 3) := by decide +kernel
theorem dX1_fooling_42 : decode cX1_fooling 42 = .ok (.iload 4, 2) := by decide +kernel
theorem dX1_fooling_44 : decode cX1_fooling 44 = .ok (.iaload, 1) := by decide +kernel
theorem dX1_fooling_45 : decode cX1_fooling 45 = .ok (.iload 4, 2) := by decide +kernel
theorem dX1_fooling_47 : decode cX1_fooling 47 = .ok (.if_icmp .eq 6, 3) := by decide +kernel
theorem dX1_fooling_50 : decode cX1_fooling 50 = .ok (.iinc 3 1, 3) := by decide +kernel
theorem dX1_fooling_53 : decode cX1_fooling 53 = .ok (.iinc 4 1, 3) := by decide +kernel
theorem dX1_fooling_56 : decode cX1_fooling 56 = .ok (.goto (-51), 3) := by decide +kernel
theorem dX1_fooling_59 : decode cX1_fooling 59 = .ok (.iload_n 3, 1) := by decide +kernel
theorem dX1_fooling_60 : decode cX1_fooling 60 = .ok (.ireturn, 1) := by decide +kernel
set_option maxRecDepth 20000 in
theorem S_X1_fooling_0 {g : GG} {d : Nat} {F : Int32 → St → Prop} (a1 : Int32) (a2 : Int32) (σ : St) (h : VM g d M_X1_fooling (qI F) 5 [(0, vR 14), (1, vI a1), (2, vI a2), (3, vI 0), (4, vI 0)] [] σ) : VM g d M_X1_fooling (qI F) 0 [(0, vR 14), (1, vI a1), (2, vI a2)] [] σ := by
  refine VE_iconst 0 dX1_fooling_0 (k := ?_)
  refine VE_istore_n (ls' := [(3, vI 0), (0, vR 14), (1, vI a1), (2, vI a2)]) dX1_fooling_1 ?_
  refine VE_iconst 0 dX1_fooling_2 (k := ?_)
  refine VE_istore (ls' := [(4, vI 0), (3, vI 0), (0, vR 14), (1, vI a1), (2, vI a2)]) dX1_fooling_3 ?_
  exact VE_sub [2, 3, 4, 1, 0] rfl h
set_option maxRecDepth 20000 in
theorem S_X1_fooling_5 {g : GG} {d : Nat} {F : Int32 → St → Prop} (x1 : Int32) (x2 : Int32) (x3 : Int32) (x4 : Int32) (σ : St) (h : (((σ 14 3) ≤ x4 → F x3 σ) ∧ (¬ (σ 14 3) ≤ x4 → ((x4 = x1 → VM g d M_X1_fooling (qI F) 5 [(0, vR 14), (1, vI x1), (2, vI x2), (3, vI x3), (4, vI (x4 + 1))] [] σ) ∧ (¬ x4 = x1 → ((x4 = x2 → VM g d M_X1_fooling (qI F) 5 [(0, vR 14), (1, vI x1), (2, vI x2), (3, vI x3), (4, vI (x4 + 1))] [] σ) ∧ (¬ x4 = x2 → (vp_in x4 5 ∧ (((σ 15 x4.toNatClampNeg) = (-9) → VM g d M_X1_fooling (qI F) 5 [(0, vR 14), (1, vI x1), (2, vI x2), (3, vI x3), (4, vI (x4 + 1))] [] σ) ∧ (¬ (σ 15 x4.toNatClampNeg) = (-9) → (((σ 15 x4.toNatClampNeg) = x4 → VM g d M_X1_fooling (qI F) 5 [(0, vR 14), (1, vI x1), (2, vI x2), (3, vI x3), (4, vI (x4 + 1))] [] σ) ∧ (¬ (σ 15 x4.toNatClampNeg) = x4 → VM g d M_X1_fooling (qI F) 5 [(0, vR 14), (1, vI x1), (2, vI x2), (3, vI (x3 + 1)), (4, vI (x4 + 1))] [] σ)))))))))))) : VM g d M_X1_fooling (qI F) 5 [(0, vR 14), (1, vI x1), (2, vI x2), (3, vI x3), (4, vI x4)] [] σ := by
  refine VE_iload 4 dX1_fooling_5 (k := ?_)
  refine VE_aload_n 0 dX1_fooling_7 (k := ?_)
  refine VE_getI dX1_fooling_8 fl_X1_30 ?_
  refine VE_icmp_ge 59 dX1_fooling_11 (fun c1 => ?_) (fun c1 => ?_)
  · refine VE_iload_n 3 dX1_fooling_59 (k := ?_)
    exact VM_iret dX1_fooling_60 (h.1 c1)
  · refine VE_iload 4 dX1_fooling_14 (k := ?_)
    refine VE_iload_n 1 dX1_fooling_16 (k := ?_)
    refine VE_icmp_eq 53 dX1_fooling_17 (fun c2 => ?_) (fun c2 => ?_)
    · refine VE_iinc 4 (x4 + 1) (ls' := [(4, vI (x4 + 1)), (0, vR 14), (1, vI x1), (2, vI x2), (3, vI x3)]) dX1_fooling_53 ?_
      refine VE_goto 5 dX1_fooling_56 ?_
      exact VE_sub [1, 2, 3, 4, 0] rfl ((h.2 c1).1 c2)
    · refine VE_iload 4 dX1_fooling_20 (k := ?_)
      refine VE_iload_n 2 dX1_fooling_22 (k := ?_)
      refine VE_icmp_eq 53 dX1_fooling_23 (fun c3 => ?_) (fun c3 => ?_)
      · refine VE_iinc 4 (x4 + 1) (ls' := [(4, vI (x4 + 1)), (0, vR 14), (1, vI x1), (2, vI x2), (3, vI x3)]) dX1_fooling_53 ?_
        refine VE_goto 5 dX1_fooling_56 ?_
        exact VE_sub [1, 2, 3, 4, 0] rfl (((h.2 c1).2 c2).1 c3)
      · refine VE_aload_n 0 dX1_fooling_26 (k := ?_)
        refine VE_getR 15 dX1_fooling_27 fl_X1_9 ?_
        refine VE_iload 4 dX1_fooling_30 (k := ?_)
        refine VE_iald dX1_fooling_32 (((h.2 c1).2 c2).2 c3).1 ?_
        refine VE_bipush (-9) dX1_fooling_33 (k := ?_)
        refine VE_icmp_eq 53 dX1_fooling_35 (fun c4 => ?_) (fun c4 => ?_)
        · refine VE_iinc 4 (x4 + 1) (ls' := [(4, vI (x4 + 1)), (0, vR 14), (1, vI x1), (2, vI x2), (3, vI x3)]) dX1_fooling_53 ?_
          refine VE_goto 5 dX1_fooling_56 ?_
          exact VE_sub [1, 2, 3, 4, 0] rfl ((((h.2 c1).2 c2).2 c3).2.1 c4)
        · refine VE_aload_n 0 dX1_fooling_38 (k := ?_)
          refine VE_getR 15 dX1_fooling_39 fl_X1_9 ?_
          refine VE_iload 4 dX1_fooling_42 (k := ?_)
          refine VE_iald dX1_fooling_44 (((h.2 c1).2 c2).2 c3).1 ?_
          refine VE_iload 4 dX1_fooling_45 (k := ?_)
          refine VE_icmp_eq 53 dX1_fooling_47 (fun c5 => ?_) (fun c5 => ?_)
          · refine VE_iinc 4 (x4 + 1) (ls' := [(4, vI (x4 + 1)), (0, vR 14), (1, vI x1), (2, vI x2), (3, vI x3)]) dX1_fooling_53 ?_
            refine VE_goto 5 dX1_fooling_56 ?_
            exact VE_sub [1, 2, 3, 4, 0] rfl (((((h.2 c1).2 c2).2 c3).2.2 c4).1 c5)
          · refine VE_iinc 3 (x3 + 1) (ls' := [(3, vI (x3 + 1)), (0, vR 14), (1, vI x1), (2, vI x2), (4, vI x4)]) dX1_fooling_50 ?_
            refine VE_iinc 4 (x4 + 1) (ls' := [(4, vI (x4 + 1)), (3, vI (x3 + 1)), (0, vR 14), (1, vI x1), (2, vI x2)]) dX1_fooling_53 ?_
            refine VE_goto 5 dX1_fooling_56 ?_
            exact VE_sub [2, 3, 4, 1, 0] rfl (((((h.2 c1).2 c2).2 c3).2.2 c4).2 c5)
theorem dX2_add_0 : decode cX2_add 0 = .ok (.aload_n 0, 1) := by decide +kernel
theorem dX2_add_1 : decode cX2_add 1 = .ok (.getfield 9, 3) := by decide +kernel
theorem dX2_add_4 : decode cX2_add 4 = .ok (.aload_n 0, 1) := by decide +kernel
theorem dX2_add_5 : decode cX2_add 5 = .ok (.getfield 21, 3) := by decide +kernel
theorem dX2_add_8 : decode cX2_add 8 = .ok (.iload_n 1, 1) := by decide +kernel
theorem dX2_add_9 : decode cX2_add 9 = .ok (.iastore, 1) := by decide +kernel
theorem dX2_add_10 : decode cX2_add 10 = .ok (.aload_n 0, 1) := by decide +kernel
theorem dX2_add_11 : decode cX2_add 11 = .ok (.getfield 15, 3) := by decide +kernel
theorem dX2_add_14 : decode cX2_add 14 = .ok (.aload_n 0, 1) := by decide +kernel
theorem dX2_add_15 : decode cX2_add 15 = .ok (.getfield 21, 3) := by decide +kernel
theorem dX2_add_18 : decode cX2_add 18 = .ok (.iload_n 2, 1) := by decide +kernel
theorem dX2_add_19 : decode cX2_add 19 = .ok (.iastore, 1) := by decide +kernel
theorem dX2_add_20 : decode cX2_add 20 = .ok (.aload_n 0, 1) := by decide +kernel
theorem dX2_add_21 : decode cX2_add 21 = .ok (.getfield 18, 3) := by decide +kernel
theorem dX2_add_24 : decode cX2_add 24 = .ok (.aload_n 0, 1) := by decide +kernel
theorem dX2_add_25 : decode cX2_add 25 = .ok (.getfield 21, 3) := by decide +kernel
theorem dX2_add_28 : decode cX2_add 28 = .ok (.iload_n 3, 1) := by decide +kernel
theorem dX2_add_29 : decode cX2_add 29 = .ok (.iastore, 1) := by decide +kernel
theorem dX2_add_30 : decode cX2_add 30 = .ok (.aload_n 0, 1) := by decide +kernel
theorem dX2_add_31 : decode cX2_add 31 = .ok (.dup, 1) := by decide +kernel
theorem dX2_add_32 : decode cX2_add 32 = .ok (.getfield 21, 3) := by decide +kernel
theorem dX2_add_35 : decode cX2_add 35 = .ok (.dup_x1, 1) := by decide +kernel
theorem dX2_add_36 : decode cX2_add 36 = .ok (.iconst 1, 1) := by decide +kernel
theorem dX2_add_37 : decode cX2_add 37 = .ok (.iadd, 1) := by decide +kernel
theorem dX2_add_38 : decode cX2_add 38 = .ok (.putfield 21, 3) := by decide +kernel
theorem dX2_add_41 : decode cX2_add 41 = .ok (.ireturn, 1) := by decide +kernel
set_option maxRecDepth 20000 in
theorem S_X2_add_0 {g : GG} {d : Nat} {F : Int32 → St → Prop} (a1 : Int32) (a2 : Int32) (a3 : Int32) (σ : St) (h : (vp_in (σ 18 3) 8 ∧ F (σ 18 3) (sU (sU (sU (sU σ 19 ((σ 18 3).toNatClampNeg) a1) 20 ((σ 18 3).toNatClampNeg) a2) 21 ((σ 18 3).toNatClampNeg) a3) 18 3 ((σ 18 3) + 1)))) : VM g d M_X2_add (qI F) 0 [(0, vR 18), (1, vI a1), (2, vI a2), (3, vI a3)] [] σ := by
  refine VE_aload_n 0 dX2_add_0 (k := ?_)
  refine VE_getR 19 dX2_add_1 fl_X2_9 ?_
  refine VE_aload_n 0 dX2_add_4 (k := ?_)
  refine VE_getI dX2_add_5 fl_X2_21 ?_
  refine VE_iload_n 1 dX2_add_8 (k := ?_)
  refine VE_iast dX2_add_9 h.1 ?_
  refine VE_aload_n 0 dX2_add_10 (k := ?_)
  refine VE_getR 20 dX2_add_11 fl_X2_15 ?_
  refine VE_aload_n 0 dX2_add_14 (k := ?_)
  refine VE_getI dX2_add_15 fl_X2_21 ?_
  refine VE_iload_n 2 dX2_add_18 (k := ?_)
  refine VE_iast dX2_add_19 h.1 ?_
  refine VE_aload_n 0 dX2_add_20 (k := ?_)
  refine VE_getR 21 dX2_add_21 fl_X2_18 ?_
  refine VE_aload_n 0 dX2_add_24 (k := ?_)
  refine VE_getI dX2_add_25 fl_X2_21 ?_
  refine VE_iload_n 3 dX2_add_28 (k := ?_)
  refine VE_iast dX2_add_29 h.1 ?_
  refine VE_aload_n 0 dX2_add_30 (k := ?_)
  refine VE_dup dX2_add_31 (k := ?_)
  refine VE_getI dX2_add_32 fl_X2_21 ?_
  refine VE_dup_x1 dX2_add_35 (k := ?_)
  refine VE_iconst 1 dX2_add_36 (k := ?_)
  refine VE_iadd dX2_add_37 ?_
  refine VE_put dX2_add_38 fl_X2_21 ?_
  exact VM_iret dX2_add_41 h.2
theorem dX2_reachBeyond_0 : decode cX2_reachBeyond 0 = .ok (.iconst 0, 1) := by decide +kernel
theorem dX2_reachBeyond_1 : decode cX2_reachBeyond 1 = .ok (.istore_n 2, 1) := by decide +kernel
theorem dX2_reachBeyond_2 : decode cX2_reachBeyond 2 = .ok (.iload_n 2, 1) := by decide +kernel
theorem dX2_reachBeyond_3 : decode cX2_reachBeyond 3 = .ok (.aload_n 0, 1) := by decide +kernel
theorem dX2_reachBeyond_4 : decode cX2_reachBeyond 4 = .ok (.getfield 21, 3) := by decide +kernel
theorem dX2_reachBeyond_7 : decode cX2_reachBeyond 7 = .ok (.if_icmp .ge 21, 3) := by decide +kernel
theorem dX2_reachBeyond_10 : decode cX2_reachBeyond 10 = .ok (.aload_n 0, 1) := by decide +kernel
theorem dX2_reachBeyond_11 : decode cX2_reachBeyond 11 = .ok (.getfield 9, 3) := by decide +kernel
theorem dX2_reachBeyond_14 : decode cX2_reachBeyond 14 = .ok (.iload_n 2, 1) := by decide +kernel
theorem dX2_reachBeyond_15 : decode cX2_reachBeyond 15 = .ok (.iaload, 1) := by decide +kernel
theorem dX2_reachBeyond_16 : decode cX2_reachBeyond 16 = .ok (.iload_n 1, 1) := by decide +kernel
theorem dX2_reachBeyond_17 : decode cX2_reachBeyond 17 = .ok (.if_icmp .le 5, 3) := by decide +kernel
theorem dX2_reachBeyond_20 : decode cX2_reachBeyond 20 = .ok (.iconst 1, 1) := by decide +kernel
theorem dX2_reachBeyond_21 : decode cX2_reachBeyond 21 = .ok (.ireturn, 1) := by decide +kernel
theorem dX2_reachBeyond_22 : decode cX2_reachBeyond 22 = .ok (.iinc 2 1, 3) := by decide +kernel
theorem dX2_reachBeyond_25 : decode cX2_reachBeyond 25 = .ok (.goto (-23), 3) := by decide +kernel
theorem dX2_reachBeyond_28 : decode cX2_reachBeyond 28 = .ok (.iconst 0, 1) := by decide +kernel
theorem dX2_reachBeyond_29 : decode cX2_reachBeyond 29 = .ok (.ireturn, 1) := by decide +kernel
set_option maxRecDepth 20000 in
theorem S_X2_reachBeyond_0 {g : GG} {d : Nat} {F : Int32 → St → Prop} (a1 : Int32) (σ : St) (h : VM g d M_X2_reachBeyond (qI F) 2 [(0, vR 18), (1, vI a1), (2, vI 0)] [] σ) : VM g d M_X2_reachBeyond (qI F) 0 [(0, vR 18), (1, vI a1)] [] σ := by
  refine VE_iconst 0 dX2_reachBeyond_0 (k := ?_)
  refine VE_istore_n (ls' := [(2, vI 0), (0, vR 18), (1, vI a1)]) dX2_reachBeyond_1 ?_
  exact VE_sub [1, 2, 0] rfl h
set_option maxRecDepth 20000 in
theorem S_X2_reachBeyond_2 {g : GG} {d : Nat} {F : Int32 → St → Prop} (x1 : Int32) (x2 : Int32) (σ : St) (h : (((σ 18 3) ≤ x2 → F 0 σ) ∧ (¬ (σ 18 3) ≤ x2 → (vp_in x2 8 ∧ (((σ 19 x2.toNatClampNeg) ≤ x1 → VM g d M_X2_reachBeyond (qI F) 2 [(0, vR 18), (1, vI x1), (2, vI (x2 + 1))] [] σ) ∧ (¬ (σ 19 x2.toNatClampNeg) ≤ x1 → F 1 σ)))))) : VM g d M_X2_reachBeyond (qI F) 2 [(0, vR 18), (1, vI x1), (2, vI x2)] [] σ := by
  refine VE_iload_n 2 dX2_reachBeyond_2 (k := ?_)
  refine VE_aload_n 0 dX2_reachBeyond_3 (k := ?_)
  refine VE_getI dX2_reachBeyond_4 fl_X2_21 ?_
  refine VE_icmp_ge 28 dX2_reachBeyond_7 (fun c1 => ?_) (fun c1 => ?_)
  · refine VE_iconst 0 dX2_reachBeyond_28 (k := ?_)
    exact VM_zret dX2_reachBeyond_29 (h.1 c1) (by decide)
  · refine VE_aload_n 0 dX2_reachBeyond_10 (k := ?_)
    refine VE_getR 19 dX2_reachBeyond_11 fl_X2_9 ?_
    refine VE_iload_n 2 dX2_reachBeyond_14 (k := ?_)
    refine VE_iald dX2_reachBeyond_15 (h.2 c1).1 ?_
    refine VE_iload_n 1 dX2_reachBeyond_16 (k := ?_)
    refine VE_icmp_le 22 dX2_reachBeyond_17 (fun c2 => ?_) (fun c2 => ?_)
    · refine VE_iinc 2 (x2 + 1) (ls' := [(2, vI (x2 + 1)), (0, vR 18), (1, vI x1)]) dX2_reachBeyond_22 ?_
      refine VE_goto 2 dX2_reachBeyond_25 ?_
      exact VE_sub [1, 2, 0] rfl ((h.2 c1).2.1 c2)
    · refine VE_iconst 1 dX2_reachBeyond_20 (k := ?_)
      exact VM_zret dX2_reachBeyond_21 ((h.2 c1).2.2 c2) (by decide)
theorem dX2_areSo_0 : decode cX2_areSo 0 = .ok (.iconst 0, 1) := by decide +kernel
theorem dX2_areSo_1 : decode cX2_areSo 1 = .ok (.istore_n 3, 1) := by decide +kernel
theorem dX2_areSo_2 : decode cX2_areSo 2 = .ok (.iload_n 3, 1) := by decide +kernel
theorem dX2_areSo_3 : decode cX2_areSo 3 = .ok (.aload_n 0, 1) := by decide +kernel
theorem dX2_areSo_4 : decode cX2_areSo 4 = .ok (.getfield 21, 3) := by decide +kernel
theorem dX2_areSo_7 : decode cX2_areSo 7 = .ok (.if_icmp .ge 41, 3) := by decide +kernel
theorem dX2_areSo_10 : decode cX2_areSo 10 = .ok (.aload_n 0, 1) := by decide +kernel
theorem dX2_areSo_11 : decode cX2_areSo 11 = .ok (.getfield 9, 3) := by decide +kernel
theorem dX2_areSo_14 : decode cX2_areSo 14 = .ok (.iload_n 3, 1) := by decide +kernel
theorem dX2_areSo_15 : decode cX2_areSo 15 = .ok (.iaload, 1) := by decide +kernel
theorem dX2_areSo_16 : decode cX2_areSo 16 = .ok (.iload_n 1, 1) := by decide +kernel
theorem dX2_areSo_17 : decode cX2_areSo 17 = .ok (.if_icmp .ne 25, 3) := by decide +kernel
theorem dX2_areSo_20 : decode cX2_areSo 20 = .ok (.aload_n 2, 1) := by decide +kernel
theorem dX2_areSo_21 : decode cX2_areSo 21 = .ok (.getfield 25, 3) := by decide +kernel
theorem dX2_areSo_24 : decode cX2_areSo 24 = .ok (.aload_n 0, 1) := by decide +kernel
theorem dX2_areSo_25 : decode cX2_areSo 25 = .ok (.getfield 15, 3) := by decide +kernel
theorem dX2_areSo_28 : decode cX2_areSo 28 = .ok (.iload_n 3, 1) := by decide +kernel
theorem dX2_areSo_29 : decode cX2_areSo 29 = .ok (.iaload, 1) := by decide +kernel
theorem dX2_areSo_30 : decode cX2_areSo 30 = .ok (.iaload, 1) := by decide +kernel
theorem dX2_areSo_31 : decode cX2_areSo 31 = .ok (.aload_n 0, 1) := by decide +kernel
theorem dX2_areSo_32 : decode cX2_areSo 32 = .ok (.getfield 18, 3) := by decide +kernel
theorem dX2_areSo_35 : decode cX2_areSo 35 = .ok (.iload_n 3, 1) := by decide +kernel
theorem dX2_areSo_36 : decode cX2_areSo 36 = .ok (.iaload, 1) := by decide +kernel
theorem dX2_areSo_37 : decode cX2_areSo 37 = .ok (.if_icmp .eq 5, 3) := by decide +kernel
theorem dX2_areSo_40 : decode cX2_areSo 40 = .ok (.iconst 0, 1) := by decide +kernel
theorem dX2_areSo_41 : decode cX2_areSo 41 = .ok (.ireturn, 1) := by decide +kernel
theorem dX2_areSo_42 : decode cX2_areSo 42 = .ok (.iinc 3 1, 3) := by decide +kernel
theorem dX2_areSo_45 : decode cX2_areSo 45 = .ok (.goto (-43), 3) := by decide +kernel
theorem dX2_areSo_48 : decode cX2_areSo 48 = .ok (.iconst 1, 1) := by decide +kernel
theorem dX2_areSo_49 : decode cX2_areSo 49 = .ok (.ireturn, 1) := by decide +kernel
set_option maxRecDepth 20000 in
theorem S_X2_areSo_0 {g : GG} {d : Nat} {F : Int32 → St → Prop} (a1 : Int32) (σ : St) (h : VM g d M_X2_areSo (qI F) 2 [(0, vR 18), (1, vI a1), (2, vR 14), (3, vI 0)] [] σ) : VM g d M_X2_areSo (qI F) 0 [(0, vR 18), (1, vI a1), (2, vR 14)] [] σ := by
  refine VE_iconst 0 dX2_areSo_0 (k := ?_)
  refine VE_istore_n (ls' := [(3, vI 0), (0, vR 18), (1, vI a1), (2, vR 14)]) dX2_areSo_1 ?_
  exact VE_sub [1, 2, 3, 0] rfl h
set_option maxRecDepth 20000 in
theorem S_X2_areSo_2 {g : GG} {d : Nat} {F : Int32 → St → Prop} (x1 : Int32) (x3 : Int32) (σ : St) (h : (((σ 18 3) ≤ x3 → F 1 σ) ∧ (¬ (σ 18 3) ≤ x3 → (vp_in x3 8 ∧ ((¬ (σ 19 x3.toNatClampNeg) = x1 → VM g d M_X2_areSo (qI F) 2 [(0, vR 18), (1, vI x1), (2, vR 14), (3, vI (x3 + 1))] [] σ) ∧ ((σ 19 x3.toNatClampNeg) = x1 → (vp_in (σ 20 x3.toNatClampNeg) 5 ∧ (((σ 15 ((σ 20 x3.toNatClampNeg).toNatClampNeg)) = (σ 21 x3.toNatClampNeg) → VM g d M_X2_areSo (qI F) 2 [(0, vR 18), (1, vI x1), (2, vR 14), (3, vI (x3 + 1))] [] σ) ∧ (¬ (σ 15 ((σ 20 x3.toNatClampNeg).toNatClampNeg)) = (σ 21 x3.toNatClampNeg) → F 0 σ))))))))) : VM g d M_X2_areSo (qI F) 2 [(0, vR 18), (1, vI x1), (2, vR 14), (3, vI x3)] [] σ := by
  refine VE_iload_n 3 dX2_areSo_2 (k := ?_)
  refine VE_aload_n 0 dX2_areSo_3 (k := ?_)
  refine VE_getI dX2_areSo_4 fl_X2_21 ?_
  refine VE_icmp_ge 48 dX2_areSo_7 (fun c1 => ?_) (fun c1 => ?_)
  · refine VE_iconst 1 dX2_areSo_48 (k := ?_)
    exact VM_zret dX2_areSo_49 (h.1 c1) (by decide)
  · refine VE_aload_n 0 dX2_areSo_10 (k := ?_)
    refine VE_getR 19 dX2_areSo_11 fl_X2_9 ?_
    refine VE_iload_n 3 dX2_areSo_14 (k := ?_)
    refine VE_iald dX2_areSo_15 (h.2 c1).1 ?_
    refine VE_iload_n 1 dX2_areSo_16 (k := ?_)
    refine VE_icmp_ne 42 dX2_areSo_17 (fun c2 => ?_) (fun c2 => ?_)
    · refine VE_iinc 3 (x3 + 1) (ls' := [(3, vI (x3 + 1)), (0, vR 18), (1, vI x1), (2, vR 14)]) dX2_areSo_42 ?_
      refine VE_goto 2 dX2_areSo_45 ?_
      exact VE_sub [1, 2, 3, 0] rfl ((h.2 c1).2.1 c2)
    · refine VE_aload_n 2 dX2_areSo_20 (k := ?_)
      refine VE_getR 15 dX2_areSo_21 fl_X2_25 ?_
      refine VE_aload_n 0 dX2_areSo_24 (k := ?_)
      refine VE_getR 20 dX2_areSo_25 fl_X2_15 ?_
      refine VE_iload_n 3 dX2_areSo_28 (k := ?_)
      refine VE_iald dX2_areSo_29 (h.2 c1).1 ?_
      refine VE_iald dX2_areSo_30 ((h.2 c1).2.2 c2).1 ?_
      refine VE_aload_n 0 dX2_areSo_31 (k := ?_)
      refine VE_getR 21 dX2_areSo_32 fl_X2_18 ?_
      refine VE_iload_n 3 dX2_areSo_35 (k := ?_)
      refine VE_iald dX2_areSo_36 (h.2 c1).1 ?_
      refine VE_icmp_eq 42 dX2_areSo_37 (fun c3 => ?_) (fun c3 => ?_)
      · refine VE_iinc 3 (x3 + 1) (ls' := [(3, vI (x3 + 1)), (0, vR 18), (1, vI x1), (2, vR 14)]) dX2_areSo_42 ?_
        refine VE_goto 2 dX2_areSo_45 ?_
        exact VE_sub [1, 2, 3, 0] rfl (((h.2 c1).2.2 c2).2.1 c3)
      · refine VE_iconst 0 dX2_areSo_40 (k := ?_)
        exact VM_zret dX2_areSo_41 (((h.2 c1).2.2 c2).2.2 c3) (by decide)
theorem dX3_isNothing_0 : decode cX3_isNothing 0 = .ok (.aload_n 0, 1) := by decide +kernel
theorem dX3_isNothing_1 : decode cX3_isNothing 1 = .ok (.getfield 15, 3) := by decide +kernel
theorem dX3_isNothing_4 : decode cX3_isNothing 4 = .ok (.ifCond .ge 7, 3) := by decide +kernel
theorem dX3_isNothing_7 : decode cX3_isNothing 7 = .ok (.iconst 1, 1) := by decide +kernel
theorem dX3_isNothing_8 : decode cX3_isNothing 8 = .ok (.goto 4, 3) := by decide +kernel
theorem dX3_isNothing_11 : decode cX3_isNothing 11 = .ok (.iconst 0, 1) := by decide +kernel
theorem dX3_isNothing_12 : decode cX3_isNothing 12 = .ok (.ireturn, 1) := by decide +kernel
set_option maxRecDepth 20000 in
theorem S_X3_isNothing_0 {g : GG} {d : Nat} {F : Int32 → St → Prop} {k : Nat} (hk : k < 4)  (σ : St) (h : ((0 ≤ (σ (2 + k) 2) → F 0 σ) ∧ (¬ 0 ≤ (σ (2 + k) 2) → F 1 σ))) : VM g d M_X3_isNothing (qI F) 0 [(0, vR (2 + k))] [] σ := by
  refine VE_aload_n 0 dX3_isNothing_0 (k := ?_)
  refine VE_getI dX3_isNothing_1 fl_X3_15 ?_ (sh_f2 hk)
  refine VE_if_ge 11 dX3_isNothing_4 (fun c1 => ?_) (fun c1 => ?_)
  · refine VE_iconst 0 dX3_isNothing_11 (k := ?_)
    exact VM_zret dX3_isNothing_12 (h.1 c1) (by decide)
  · refine VE_iconst 1 dX3_isNothing_7 (k := ?_)
    refine VE_goto 12 dX3_isNothing_8 ?_
    exact VM_zret dX3_isNothing_12 (h.2 c1) (by decide)
theorem dX3_renew_0 : decode cX3_renew 0 = .ok (.aload_n 0, 1) := by decide +kernel
theorem dX3_renew_1 : decode cX3_renew 1 = .ok (.iload_n 1, 1) := by decide +kernel
theorem dX3_renew_2 : decode cX3_renew 2 = .ok (.putfield 19, 3) := by decide +kernel
theorem dX3_renew_5 : decode cX3_renew 5 = .ok (.aload_n 0, 1) := by decide +kernel
theorem dX3_renew_6 : decode cX3_renew 6 = .ok (.iload_n 2, 1) := by decide +kernel
theorem dX3_renew_7 : decode cX3_renew 7 = .ok (.putfield 15, 3) := by decide +kernel
theorem dX3_renew_10 : decode cX3_renew 10 = .ok (.iconst 0, 1) := by decide +kernel
theorem dX3_renew_11 : decode cX3_renew 11 = .ok (.istore_n 3, 1) := by decide +kernel
theorem dX3_renew_12 : decode cX3_renew 12 = .ok (.iload_n 3, 1) := by decide +kernel
theorem dX3_renew_13 : decode cX3_renew 13 = .ok (.bipush 60, 2) := by decide +kernel
theorem dX3_renew_15 : decode cX3_renew 15 = .ok (.if_icmp .ge 16, 3) := by decide +kernel
theorem dX3_renew_18 : decode cX3_renew 18 = .ok (.aload_n 0, 1) := by decide +kernel
theorem dX3_renew_19 : decode cX3_renew 19 = .ok (.getfield 9, 3) := by decide +kernel
theorem dX3_renew_22 : decode cX3_renew 22 = .ok (.iload_n 3, 1) := by decide +kernel
theorem dX3_renew_23 : decode cX3_renew 23 = .ok (.iconst 0, 1) := by decide +kernel
theorem dX3_renew_24 : decode cX3_renew 24 = .ok (.iastore, 1) := by decide +kernel
theorem dX3_renew_25 : decode cX3_renew 25 = .ok (.iinc 3 1, 3) := by decide +kernel
theorem dX3_renew_28 : decode cX3_renew 28 = .ok (.goto (-16), 3) := by decide +kernel
theorem dX3_renew_31 : decode cX3_renew 31 = .ok (.return_, 1) := by decide +kernel
set_option maxRecDepth 20000 in
theorem S_X3_renew_0 {g : GG} {d : Nat} {F : St → Prop} {k : Nat} (hk : k < 4) (a1 : Int32) (a2 : Int32) (σ : St) (h : VM g d M_X3_renew (qV F) 12 [(0, vR (2 + k)), (1, vI a1), (2, vI a2), (3, vI 0)] [] (sU (sU σ (2 + k) 1 a1) (2 + k) 2 a2)) : VM g d M_X3_renew (qV F) 0 [(0, vR (2 + k)), (1, vI a1), (2, vI a2)] [] σ := by
  refine VE_aload_n 0 dX3_renew_0 (k := ?_)
  refine VE_iload_n 1 dX3_renew_1 (k := ?_)
  refine VE_put dX3_renew_2 fl_X3_19 ?_ (sh_f1 hk)
  refine VE_aload_n 0 dX3_renew_5 (k := ?_)
  refine VE_iload_n 2 dX3_renew_6 (k := ?_)
  refine VE_put dX3_renew_7 fl_X3_15 ?_ (sh_f2 hk)
  refine VE_iconst 0 dX3_renew_10 (k := ?_)
  refine VE_istore_n (ls' := [(3, vI 0), (0, vR (2 + k)), (1, vI a1), (2, vI a2)]) dX3_renew_11 ?_
  exact VE_sub [1, 2, 3, 0] rfl h
set_option maxRecDepth 20000 in
theorem S_X3_renew_12 {g : GG} {d : Nat} {F : St → Prop} {k : Nat} (hk : k < 4) (x1 : Int32) (x2 : Int32) (x3 : Int32) (σ : St) (h : ((60 ≤ x3 → F σ) ∧ (¬ 60 ≤ x3 → (vp_in x3 60 ∧ VM g d M_X3_renew (qV F) 12 [(0, vR (2 + k)), (1, vI x1), (2, vI x2), (3, vI (x3 + 1))] [] (sU σ (6 + k) x3.toNatClampNeg 0))))) : VM g d M_X3_renew (qV F) 12 [(0, vR (2 + k)), (1, vI x1), (2, vI x2), (3, vI x3)] [] σ := by
  refine VE_iload_n 3 dX3_renew_12 (k := ?_)
  refine VE_bipush 60 dX3_renew_13 (k := ?_)
  refine VE_icmp_ge 31 dX3_renew_15 (fun c1 => ?_) (fun c1 => ?_)
  · exact VM_vret dX3_renew_31 (h.1 c1)
  · refine VE_aload_n 0 dX3_renew_18 (k := ?_)
    refine VE_getR (6 + k) dX3_renew_19 fl_X3_9 ?_ (sh_f0 hk)
    refine VE_iload_n 3 dX3_renew_22 (k := ?_)
    refine VE_iconst 0 dX3_renew_23 (k := ?_)
    refine VE_iast dX3_renew_24 (sh_in hk (h.2 c1).1) ?_ (sh_A hk)
    refine VE_iinc 3 (x3 + 1) (ls' := [(3, vI (x3 + 1)), (0, vR (2 + k)), (1, vI x1), (2, vI x2)]) dX3_renew_25 ?_
    refine VE_goto 12 dX3_renew_28 ?_
    exact VE_sub [1, 2, 3, 0] rfl (h.2 c1).2
theorem dX3_hasCells_0 : decode cX3_hasCells 0 = .ok (.iload_n 1, 1) := by decide +kernel
theorem dX3_hasCells_1 : decode cX3_hasCells 1 = .ok (.ifCond .lt 29, 3) := by decide +kernel
theorem dX3_hasCells_4 : decode cX3_hasCells 4 = .ok (.iload_n 2, 1) := by decide +kernel
theorem dX3_hasCells_5 : decode cX3_hasCells 5 = .ok (.ifCond .lt 25, 3) := by decide +kernel
theorem dX3_hasCells_8 : decode cX3_hasCells 8 = .ok (.iload_n 1, 1) := by decide +kernel
theorem dX3_hasCells_9 : decode cX3_hasCells 9 = .ok (.aload_n 0, 1) := by decide +kernel
theorem dX3_hasCells_10 : decode cX3_hasCells 10 = .ok (.getfield 15, 3) := by decide +kernel
theorem dX3_hasCells_13 : decode cX3_hasCells 13 = .ok (.if_icmp .gt 17, 3) := by decide +kernel
theorem dX3_hasCells_16 : decode cX3_hasCells 16 = .ok (.iload_n 2, 1) := by decide +kernel
theorem dX3_hasCells_17 : decode cX3_hasCells 17 = .ok (.aload_n 0, 1) := by decide +kernel
theorem dX3_hasCells_18 : decode cX3_hasCells 18 = .ok (.getfield 15, 3) := by decide +kernel
theorem dX3_hasCells_21 : decode cX3_hasCells 21 = .ok (.iload_n 1, 1) := by decide +kernel
theorem dX3_hasCells_22 : decode cX3_hasCells 22 = .ok (.isub, 1) := by decide +kernel
theorem dX3_hasCells_23 : decode cX3_hasCells 23 = .ok (.if_icmp .gt 7, 3) := by decide +kernel
theorem dX3_hasCells_26 : decode cX3_hasCells 26 = .ok (.iconst 1, 1) := by decide +kernel
theorem dX3_hasCells_27 : decode cX3_hasCells 27 = .ok (.goto 4, 3) := by decide +kernel
theorem dX3_hasCells_30 : decode cX3_hasCells 30 = .ok (.iconst 0, 1) := by decide +kernel
theorem dX3_hasCells_31 : decode cX3_hasCells 31 = .ok (.ireturn, 1) := by decide +kernel
set_option maxRecDepth 20000 in
theorem S_X3_hasCells_0 {g : GG} {d : Nat} {F : Int32 → St → Prop} {k : Nat} (hk : k < 4) (a1 : Int32) (a2 : Int32) (σ : St) (h : ((a1 < 0 → F 0 σ) ∧ (¬ a1 < 0 → ((a2 < 0 → F 0 σ) ∧ (¬ a2 < 0 → (((σ (2 + k) 2) < a1 → F 0 σ) ∧ (¬ (σ (2 + k) 2) < a1 → ((((σ (2 + k) 2) - a1) < a2 → F 0 σ) ∧ (¬ ((σ (2 + k) 2) - a1) < a2 → F 1 σ))))))))) : VM g d M_X3_hasCells (qI F) 0 [(0, vR (2 + k)), (1, vI a1), (2, vI a2)] [] σ := by
  refine VE_iload_n 1 dX3_hasCells_0 (k := ?_)
  refine VE_if_lt 30 dX3_hasCells_1 (fun c1 => ?_) (fun c1 => ?_)
  · refine VE_iconst 0 dX3_hasCells_30 (k := ?_)
    exact VM_zret dX3_hasCells_31 (h.1 c1) (by decide)
  · refine VE_iload_n 2 dX3_hasCells_4 (k := ?_)
    refine VE_if_lt 30 dX3_hasCells_5 (fun c2 => ?_) (fun c2 => ?_)
    · refine VE_iconst 0 dX3_hasCells_30 (k := ?_)
      exact VM_zret dX3_hasCells_31 ((h.2 c1).1 c2) (by decide)
    · refine VE_iload_n 1 dX3_hasCells_8 (k := ?_)
      refine VE_aload_n 0 dX3_hasCells_9 (k := ?_)
      refine VE_getI dX3_hasCells_10 fl_X3_15 ?_ (sh_f2 hk)
      refine VE_icmp_gt 30 dX3_hasCells_13 (fun c3 => ?_) (fun c3 => ?_)
      · refine VE_iconst 0 dX3_hasCells_30 (k := ?_)
        exact VM_zret dX3_hasCells_31 (((h.2 c1).2 c2).1 c3) (by decide)
      · refine VE_iload_n 2 dX3_hasCells_16 (k := ?_)
        refine VE_aload_n 0 dX3_hasCells_17 (k := ?_)
        refine VE_getI dX3_hasCells_18 fl_X3_15 ?_ (sh_f2 hk)
        refine VE_iload_n 1 dX3_hasCells_21 (k := ?_)
        refine VE_isub dX3_hasCells_22 ?_
        refine VE_icmp_gt 30 dX3_hasCells_23 (fun c4 => ?_) (fun c4 => ?_)
        · refine VE_iconst 0 dX3_hasCells_30 (k := ?_)
          exact VM_zret dX3_hasCells_31 ((((h.2 c1).2 c2).2 c3).1 c4) (by decide)
        · refine VE_iconst 1 dX3_hasCells_26 (k := ?_)
          refine VE_goto 31 dX3_hasCells_27 ?_
          exact VM_zret dX3_hasCells_31 ((((h.2 c1).2 c2).2 c3).2 c4) (by decide)
theorem dX3_faultOfCells_0 : decode cX3_faultOfCells 0 = .ok (.aload_n 0, 1) := by decide +kernel
theorem dX3_faultOfCells_1 : decode cX3_faultOfCells 1 = .ok (.invokevirtual 22, 3) := by decide +kernel
theorem dX3_faultOfCells_4 : decode cX3_faultOfCells 4 = .ok (.ifCond .eq 6, 3) := by decide +kernel
theorem dX3_faultOfCells_7 : decode cX3_faultOfCells 7 = .ok (.bipush (-11), 2) := by decide +kernel
theorem dX3_faultOfCells_9 : decode cX3_faultOfCells 9 = .ok (.ireturn, 1) := by decide +kernel
theorem dX3_faultOfCells_10 : decode cX3_faultOfCells 10 = .ok (.aload_n 0, 1) := by decide +kernel
theorem dX3_faultOfCells_11 : decode cX3_faultOfCells 11 = .ok (.getfield 19, 3) := by decide +kernel
theorem dX3_faultOfCells_14 : decode cX3_faultOfCells 14 = .ok (.iload_n 1, 1) := by decide +kernel
theorem dX3_faultOfCells_15 : decode cX3_faultOfCells 15 = .ok (.if_icmp .eq 6, 3) := by decide +kernel
theorem dX3_faultOfCells_18 : decode cX3_faultOfCells 18 = .ok (.bipush (-12), 2) := by decide +kernel
theorem dX3_faultOfCells_20 : decode cX3_faultOfCells 20 = .ok (.ireturn, 1) := by decide +kernel
theorem dX3_faultOfCells_21 : decode cX3_faultOfCells 21 = .ok (.iload_n 3, 1) := by decide +kernel
theorem dX3_faultOfCells_22 : decode cX3_faultOfCells 22 = .ok (.ifCond .ge 6, 3) := by decide +kernel
theorem dX3_faultOfCells_25 : decode cX3_faultOfCells 25 = .ok (.bipush (-14), 2) := by decide +kernel
theorem dX3_faultOfCells_27 : decode cX3_faultOfCells 27 = .ok (.ireturn, 1) := by decide +kernel
theorem dX3_faultOfCells_28 : decode cX3_faultOfCells 28 = .ok (.aload_n 0, 1) := by decide +kernel
theorem dX3_faultOfCells_29 : decode cX3_faultOfCells 29 = .ok (.iload_n 2, 1) := by decide +kernel
theorem dX3_faultOfCells_30 : decode cX3_faultOfCells 30 = .ok (.iload_n 3, 1) := by decide +kernel
theorem dX3_faultOfCells_31 : decode cX3_faultOfCells 31 = .ok (.invokevirtual 26, 3) := by decide +kernel
theorem dX3_faultOfCells_34 : decode cX3_faultOfCells 34 = .ok (.ifCond .eq 7, 3) := by decide +kernel
theorem dX3_faultOfCells_37 : decode cX3_faultOfCells 37 = .ok (.iconst 0, 1) := by decide +kernel
theorem dX3_faultOfCells_38 : decode cX3_faultOfCells 38 = .ok (.goto 5, 3) := by decide +kernel
theorem dX3_faultOfCells_41 : decode cX3_faultOfCells 41 = .ok (.bipush (-13), 2) := by decide +kernel
theorem dX3_faultOfCells_43 : decode cX3_faultOfCells 43 = .ok (.ireturn, 1) := by decide +kernel
set_option maxRecDepth 20000 in
theorem S_X3_faultOfCells_0 {g : GG} {d : Nat} {F : Int32 → St → Prop} {k : Nat} (hk : k < 4) (a1 : Int32) (a2 : Int32) (a3 : Int32) (σ : St) (h : (ME g d M_X3_isNothing [vR (2 + k)] σ (qI (fun r1 σ2 => ((r1 = 0 → (((σ2 (2 + k) 1) = a1 → ((0 ≤ a3 → (ME g d M_X3_hasCells [vR (2 + k), vI a2, vI a3] σ2 (qI (fun r7 σ8 => ((r7 = 0 → F (-13) σ8) ∧ (¬ r7 = 0 → F 0 σ8)))))) ∧ (¬ 0 ≤ a3 → F (-14) σ2))) ∧ (¬ (σ2 (2 + k) 1) = a1 → F (-12) σ2))) ∧ (¬ r1 = 0 → F (-11) σ2)))))) : VM g (d + 1) M_X3_faultOfCells (qI F) 0 [(0, vR (2 + k)), (1, vI a1), (2, vI a2), (3, vI a3)] [] σ := by
  refine VE_aload_n 0 dX3_faultOfCells_0 (k := ?_)
  refine VE_cVi [] dX3_faultOfCells_1 ml_X3_22 h (fun r1 σ2 h3 => ?_) (rok_D d) (hj := sh_ocl hk)
  refine VE_if_eq 10 dX3_faultOfCells_4 (fun c4 => ?_) (fun c4 => ?_)
  · refine VE_aload_n 0 dX3_faultOfCells_10 (k := ?_)
    refine VE_getI dX3_faultOfCells_11 fl_X3_19 ?_ (sh_f1 hk)
    refine VE_iload_n 1 dX3_faultOfCells_14 (k := ?_)
    refine VE_icmp_eq 21 dX3_faultOfCells_15 (fun c5 => ?_) (fun c5 => ?_)
    · refine VE_iload_n 3 dX3_faultOfCells_21 (k := ?_)
      refine VE_if_ge 28 dX3_faultOfCells_22 (fun c6 => ?_) (fun c6 => ?_)
      · refine VE_aload_n 0 dX3_faultOfCells_28 (k := ?_)
        refine VE_iload_n 2 dX3_faultOfCells_29 (k := ?_)
        refine VE_iload_n 3 dX3_faultOfCells_30 (k := ?_)
        refine VE_cVi [vI a2, vI a3] dX3_faultOfCells_31 ml_X3_26 (((h3.1 c4).1 c5).1 c6) (fun r7 σ8 h9 => ?_) (rok_D d) (hj := sh_ocl hk)
        refine VE_if_eq 41 dX3_faultOfCells_34 (fun c10 => ?_) (fun c10 => ?_)
        · refine VE_bipush (-13) dX3_faultOfCells_41 (k := ?_)
          exact VM_iret dX3_faultOfCells_43 (h9.1 c10)
        · refine VE_iconst 0 dX3_faultOfCells_37 (k := ?_)
          refine VE_goto 43 dX3_faultOfCells_38 ?_
          exact VM_iret dX3_faultOfCells_43 (h9.2 c10)
      · refine VE_bipush (-14) dX3_faultOfCells_25 (k := ?_)
        exact VM_iret dX3_faultOfCells_27 (((h3.1 c4).1 c5).2 c6)
    · refine VE_bipush (-12) dX3_faultOfCells_18 (k := ?_)
      exact VM_iret dX3_faultOfCells_20 ((h3.1 c4).2 c5)
  · refine VE_bipush (-11) dX3_faultOfCells_7 (k := ?_)
    exact VM_iret dX3_faultOfCells_9 (h3.2 c4)
