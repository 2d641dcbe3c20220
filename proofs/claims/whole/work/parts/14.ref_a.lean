theorem dX5_fails_0 : decode cX5_fails 0 = .ok (.aload_n 0, 1) := by decide +kernel
theorem dX5_fails_1 : decode cX5_fails 1 = .ok (.iload_n 1, 1) := by decide +kernel
theorem dX5_fails_2 : decode cX5_fails 2 = .ok (.putfield 49, 3) := by decide +kernel
theorem dX5_fails_5 : decode cX5_fails 5 = .ok (.bipush (-10), 2) := by decide +kernel
theorem dX5_fails_7 : decode cX5_fails 7 = .ok (.iload_n 1, 1) := by decide +kernel
theorem dX5_fails_8 : decode cX5_fails 8 = .ok (.isub, 1) := by decide +kernel
theorem dX5_fails_9 : decode cX5_fails 9 = .ok (.ireturn, 1) := by decide +kernel
set_option maxRecDepth 20000 in
theorem S_X5_fails_0 {g : GG} {d : Nat} {F : Int32 → St → Prop} (a1 : Int32) (σ : St) (h : F ((-10) - a1) (sU σ 23 0 a1)) : VM g d M_X5_fails (qI F) 0 [(0, vR 23), (1, vI a1)] [] σ := by
  refine VE_aload_n 0 dX5_fails_0 (k := ?_)
  refine VE_iload_n 1 dX5_fails_1 (k := ?_)
  refine VE_put dX5_fails_2 fl_X5_49 ?_
  refine VE_bipush (-10) dX5_fails_5 (k := ?_)
  refine VE_iload_n 1 dX5_fails_7 (k := ?_)
  refine VE_isub dX5_fails_8 ?_
  exact VM_iret dX5_fails_9 h
theorem dX5_lost_0 : decode cX5_lost 0 = .ok (.aload_n 0, 1) := by decide +kernel
theorem dX5_lost_1 : decode cX5_lost 1 = .ok (.iload_n 1, 1) := by decide +kernel
theorem dX5_lost_2 : decode cX5_lost 2 = .ok (.putfield 49, 3) := by decide +kernel
theorem dX5_lost_5 : decode cX5_lost 5 = .ok (.ldc2_w 53, 3) := by decide +kernel
theorem dX5_lost_8 : decode cX5_lost 8 = .ok (.lreturn, 1) := by decide +kernel
set_option maxRecDepth 20000 in
theorem S_X5_lost_0 {g : GG} {d : Nat} {F : Int64 → St → Prop} (a1 : Int32) (σ : St) (h : F (-9223372036854775808) (sU σ 23 0 a1)) : VM g d M_X5_lost (qL F) 0 [(0, vR 23), (1, vI a1)] [] σ := by
  refine VE_aload_n 0 dX5_lost_0 (k := ?_)
  refine VE_iload_n 1 dX5_lost_1 (k := ?_)
  refine VE_put dX5_lost_2 fl_X5_49 ?_
  refine VE_ldc2 (-9223372036854775808) 695 dX5_lost_5 ⟨by decide +kernel, rfl⟩ ?_
  exact VM_lret dX5_lost_8 h
theorem dX5_within_0 : decode cX5_within 0 = .ok (.iload_n 0, 1) := by decide +kernel
theorem dX5_within_1 : decode cX5_within 1 = .ok (.iload_n 1, 1) := by decide +kernel
theorem dX5_within_2 : decode cX5_within 2 = .ok (.if_icmp .lt 12, 3) := by decide +kernel
theorem dX5_within_5 : decode cX5_within 5 = .ok (.iload_n 0, 1) := by decide +kernel
theorem dX5_within_6 : decode cX5_within 6 = .ok (.iload_n 2, 1) := by decide +kernel
theorem dX5_within_7 : decode cX5_within 7 = .ok (.if_icmp .gt 7, 3) := by decide +kernel
theorem dX5_within_10 : decode cX5_within 10 = .ok (.iconst 1, 1) := by decide +kernel
theorem dX5_within_11 : decode cX5_within 11 = .ok (.goto 4, 3) := by decide +kernel
theorem dX5_within_14 : decode cX5_within 14 = .ok (.iconst 0, 1) := by decide +kernel
theorem dX5_within_15 : decode cX5_within 15 = .ok (.ireturn, 1) := by decide +kernel
set_option maxRecDepth 20000 in
theorem S_X5_within_0 {g : GG} {d : Nat} {F : Int32 → St → Prop} (a1 : Int32) (a2 : Int32) (a3 : Int32) (σ : St) (h : ((a1 < a2 → F 0 σ) ∧ (¬ a1 < a2 → ((a3 < a1 → F 0 σ) ∧ (¬ a3 < a1 → F 1 σ))))) : VM g d M_X5_within (qI F) 0 [(0, vI a1), (1, vI a2), (2, vI a3)] [] σ := by
  refine VE_iload_n 0 dX5_within_0 (k := ?_)
  refine VE_iload_n 1 dX5_within_1 (k := ?_)
  refine VE_icmp_lt 14 dX5_within_2 (fun c1 => ?_) (fun c1 => ?_)
  · refine VE_iconst 0 dX5_within_14 (k := ?_)
    exact VM_zret dX5_within_15 (h.1 c1) (by decide)
  · refine VE_iload_n 0 dX5_within_5 (k := ?_)
    refine VE_iload_n 2 dX5_within_6 (k := ?_)
    refine VE_icmp_gt 14 dX5_within_7 (fun c2 => ?_) (fun c2 => ?_)
    · refine VE_iconst 0 dX5_within_14 (k := ?_)
      exact VM_zret dX5_within_15 ((h.2 c1).1 c2) (by decide)
    · refine VE_iconst 1 dX5_within_10 (k := ?_)
      refine VE_goto 15 dX5_within_11 ?_
      exact VM_zret dX5_within_15 ((h.2 c1).2 c2) (by decide)
theorem dX5_isSheet_0 : decode cX5_isSheet 0 = .ok (.iload_n 0, 1) := by decide +kernel
theorem dX5_isSheet_1 : decode cX5_isSheet 1 = .ok (.iconst 0, 1) := by decide +kernel
theorem dX5_isSheet_2 : decode cX5_isSheet 2 = .ok (.iconst 3, 1) := by decide +kernel
theorem dX5_isSheet_3 : decode cX5_isSheet 3 = .ok (.invokestatic 55, 3) := by decide +kernel
theorem dX5_isSheet_6 : decode cX5_isSheet 6 = .ok (.ireturn, 1) := by decide +kernel
set_option maxRecDepth 20000 in
theorem S_X5_isSheet_0 {g : GG} {d : Nat} {F : Int32 → St → Prop} (a1 : Int32) (σ : St) (h : (ME g d M_X5_within [vI a1, vI 0, vI 3] σ (qI (fun r1 σ2 => (F r1 σ2 ∧ (r1 = 0 ∨ r1 = 1)))))) : VM g (d + 1) M_X5_isSheet (qI F) 0 [(0, vI a1)] [] σ := by
  refine VE_iload_n 0 dX5_isSheet_0 (k := ?_)
  refine VE_iconst 0 dX5_isSheet_1 (k := ?_)
  refine VE_iconst 3 dX5_isSheet_2 (k := ?_)
  refine VE_cSi [vI a1, vI 0, vI 3] dX5_isSheet_3 ml_X5_55 h (fun r1 σ2 h3 => ?_) (rok_D d)
  exact VM_zret dX5_isSheet_6 h3.1 h3.2
theorem dX5_isSort_0 : decode cX5_isSort 0 = .ok (.iload_n 0, 1) := by decide +kernel
theorem dX5_isSort_1 : decode cX5_isSort 1 = .ok (.iconst 0, 1) := by decide +kernel
theorem dX5_isSort_2 : decode cX5_isSort 2 = .ok (.iconst 2, 1) := by decide +kernel
theorem dX5_isSort_3 : decode cX5_isSort 3 = .ok (.invokestatic 55, 3) := by decide +kernel
theorem dX5_isSort_6 : decode cX5_isSort 6 = .ok (.ireturn, 1) := by decide +kernel
set_option maxRecDepth 20000 in
theorem S_X5_isSort_0 {g : GG} {d : Nat} {F : Int32 → St → Prop} (a1 : Int32) (σ : St) (h : (ME g d M_X5_within [vI a1, vI 0, vI 2] σ (qI (fun r1 σ2 => (F r1 σ2 ∧ (r1 = 0 ∨ r1 = 1)))))) : VM g (d + 1) M_X5_isSort (qI F) 0 [(0, vI a1)] [] σ := by
  refine VE_iload_n 0 dX5_isSort_0 (k := ?_)
  refine VE_iconst 0 dX5_isSort_1 (k := ?_)
  refine VE_iconst 2 dX5_isSort_2 (k := ?_)
  refine VE_cSi [vI a1, vI 0, vI 2] dX5_isSort_3 ml_X5_55 h (fun r1 σ2 h3 => ?_) (rok_D d)
  exact VM_zret dX5_isSort_6 h3.1 h3.2
theorem dX5_against_0 : decode cX5_against 0 = .ok (.aload_n 0, 1) := by decide +kernel
theorem dX5_against_1 : decode cX5_against 1 = .ok (.getfield 9, 3) := by decide +kernel
theorem dX5_against_4 : decode cX5_against 4 = .ok (.iload_n 1, 1) := by decide +kernel
theorem dX5_against_5 : decode cX5_against 5 = .ok (.iaload, 1) := by decide +kernel
theorem dX5_against_6 : decode cX5_against 6 = .ok (.bipush (-9), 2) := by decide +kernel
theorem dX5_against_8 : decode cX5_against 8 = .ok (.if_icmp .eq 15, 3) := by decide +kernel
theorem dX5_against_11 : decode cX5_against 11 = .ok (.aload_n 0, 1) := by decide +kernel
theorem dX5_against_12 : decode cX5_against 12 = .ok (.getfield 9, 3) := by decide +kernel
theorem dX5_against_15 : decode cX5_against 15 = .ok (.iload_n 1, 1) := by decide +kernel
theorem dX5_against_16 : decode cX5_against 16 = .ok (.iaload, 1) := by decide +kernel
theorem dX5_against_17 : decode cX5_against 17 = .ok (.iload_n 2, 1) := by decide +kernel
theorem dX5_against_18 : decode cX5_against 18 = .ok (.if_icmp .eq 5, 3) := by decide +kernel
theorem dX5_against_21 : decode cX5_against 21 = .ok (.iconst 2, 1) := by decide +kernel
theorem dX5_against_22 : decode cX5_against 22 = .ok (.ireturn, 1) := by decide +kernel
theorem dX5_against_23 : decode cX5_against 23 = .ok (.aload_n 0, 1) := by decide +kernel
theorem dX5_against_24 : decode cX5_against 24 = .ok (.getfield 9, 3) := by decide +kernel
theorem dX5_against_27 : decode cX5_against 27 = .ok (.iload_n 1, 1) := by decide +kernel
theorem dX5_against_28 : decode cX5_against 28 = .ok (.iaload, 1) := by decide +kernel
theorem dX5_against_29 : decode cX5_against 29 = .ok (.bipush (-9), 2) := by decide +kernel
theorem dX5_against_31 : decode cX5_against 31 = .ok (.if_icmp .ne 5, 3) := by decide +kernel
theorem dX5_against_34 : decode cX5_against 34 = .ok (.iconst 1, 1) := by decide +kernel
theorem dX5_against_35 : decode cX5_against 35 = .ok (.ireturn, 1) := by decide +kernel
theorem dX5_against_36 : decode cX5_against 36 = .ok (.iload 4, 2) := by decide +kernel
theorem dX5_against_38 : decode cX5_against 38 = .ok (.ifCond .ge 5, 3) := by decide +kernel
theorem dX5_against_41 : decode cX5_against 41 = .ok (.iconst 4, 1) := by decide +kernel
theorem dX5_against_42 : decode cX5_against 42 = .ok (.ireturn, 1) := by decide +kernel
theorem dX5_against_43 : decode cX5_against 43 = .ok (.iload_n 3, 1) := by decide +kernel
theorem dX5_against_44 : decode cX5_against 44 = .ok (.ifCond .lt 26, 3) := by decide +kernel
theorem dX5_against_47 : decode cX5_against 47 = .ok (.iload_n 3, 1) := by decide +kernel
theorem dX5_against_48 : decode cX5_against 48 = .ok (.aload_n 0, 1) := by decide +kernel
theorem dX5_against_49 : decode cX5_against 49 = .ok (.getfield 13, 3) := by decide +kernel
theorem dX5_against_52 : decode cX5_against 52 = .ok (.iload_n 1, 1) := by decide +kernel
theorem dX5_against_53 : decode cX5_against 53 = .ok (.iaload, 1) := by decide +kernel
theorem dX5_against_54 : decode cX5_against 54 = .ok (.if_icmp .gt 16, 3) := by decide +kernel
theorem dX5_against_57 : decode cX5_against 57 = .ok (.iload 4, 2) := by decide +kernel
theorem dX5_against_59 : decode cX5_against 59 = .ok (.aload_n 0, 1) := by decide +kernel
theorem dX5_against_60 : decode cX5_against 60 = .ok (.getfield 13, 3) := by decide +kernel
theorem dX5_against_63 : decode cX5_against 63 = .ok (.iload_n 1, 1) := by decide +kernel
theorem dX5_against_64 : decode cX5_against 64 = .ok (.iaload, 1) := by decide +kernel
theorem dX5_against_65 : decode cX5_against 65 = .ok (.iload_n 3, 1) := by decide +kernel
theorem dX5_against_66 : decode cX5_against 66 = .ok (.isub, 1) := by decide +kernel
theorem dX5_against_67 : decode cX5_against 67 = .ok (.if_icmp .le 7, 3) := by decide +kernel
theorem dX5_against_70 : decode cX5_against 70 = .ok (.iconst 3, 1) := by decide +kernel
theorem dX5_against_71 : decode cX5_against 71 = .ok (.goto 4, 3) := by decide +kernel
theorem dX5_against_74 : decode cX5_against 74 = .ok (.iconst 0, 1) := by decide +kernel
theorem dX5_against_75 : decode cX5_against 75 = .ok (.ireturn, 1) := by decide +kernel
set_option maxRecDepth 20000 in
theorem S_X5_against_0 {g : GG} {d : Nat} {F : Int32 → St → Prop} (a1 : Int32) (a2 : Int32) (a3 : Int32) (a4 : Int32) (σ : St) (h : (vp_in a1 4 ∧ (((σ 24 a1.toNatClampNeg) = (-9) → ((¬ (σ 24 a1.toNatClampNeg) = (-9) → ((0 ≤ a4 → ((a3 < 0 → F 3 σ) ∧ (¬ a3 < 0 → (((σ 25 a1.toNatClampNeg) < a3 → F 3 σ) ∧ (¬ (σ 25 a1.toNatClampNeg) < a3 → ((a4 ≤ ((σ 25 a1.toNatClampNeg) - a3) → F 0 σ) ∧ (¬ a4 ≤ ((σ 25 a1.toNatClampNeg) - a3) → F 3 σ))))))) ∧ (¬ 0 ≤ a4 → F 4 σ))) ∧ ((σ 24 a1.toNatClampNeg) = (-9) → F 1 σ))) ∧ (¬ (σ 24 a1.toNatClampNeg) = (-9) → (((σ 24 a1.toNatClampNeg) = a2 → ((¬ (σ 24 a1.toNatClampNeg) = (-9) → ((0 ≤ a4 → ((a3 < 0 → F 3 σ) ∧ (¬ a3 < 0 → (((σ 25 a1.toNatClampNeg) < a3 → F 3 σ) ∧ (¬ (σ 25 a1.toNatClampNeg) < a3 → ((a4 ≤ ((σ 25 a1.toNatClampNeg) - a3) → F 0 σ) ∧ (¬ a4 ≤ ((σ 25 a1.toNatClampNeg) - a3) → F 3 σ))))))) ∧ (¬ 0 ≤ a4 → F 4 σ))) ∧ ((σ 24 a1.toNatClampNeg) = (-9) → F 1 σ))) ∧ (¬ (σ 24 a1.toNatClampNeg) = a2 → F 2 σ)))))) : VM g d M_X5_against (qI F) 0 [(0, vR 23), (1, vI a1), (2, vI a2), (3, vI a3), (4, vI a4)] [] σ := by
  refine VE_aload_n 0 dX5_against_0 (k := ?_)
  refine VE_getR 24 dX5_against_1 fl_X5_9 ?_
  refine VE_iload_n 1 dX5_against_4 (k := ?_)
  refine VE_iald dX5_against_5 h.1 ?_
  refine VE_bipush (-9) dX5_against_6 (k := ?_)
  refine VE_icmp_eq 23 dX5_against_8 (fun c1 => ?_) (fun c1 => ?_)
  · refine VE_aload_n 0 dX5_against_23 (k := ?_)
    refine VE_getR 24 dX5_against_24 fl_X5_9 ?_
    refine VE_iload_n 1 dX5_against_27 (k := ?_)
    refine VE_iald dX5_against_28 h.1 ?_
    refine VE_bipush (-9) dX5_against_29 (k := ?_)
    refine VE_icmp_ne 36 dX5_against_31 (fun c2 => ?_) (fun c2 => ?_)
    · refine VE_iload 4 dX5_against_36 (k := ?_)
      refine VE_if_ge 43 dX5_against_38 (fun c3 => ?_) (fun c3 => ?_)
      · refine VE_iload_n 3 dX5_against_43 (k := ?_)
        refine VE_if_lt 70 dX5_against_44 (fun c4 => ?_) (fun c4 => ?_)
        · refine VE_iconst 3 dX5_against_70 (k := ?_)
          refine VE_goto 75 dX5_against_71 ?_
          exact VM_iret dX5_against_75 ((((h.2.1 c1).1 c2).1 c3).1 c4)
        · refine VE_iload_n 3 dX5_against_47 (k := ?_)
          refine VE_aload_n 0 dX5_against_48 (k := ?_)
          refine VE_getR 25 dX5_against_49 fl_X5_13 ?_
          refine VE_iload_n 1 dX5_against_52 (k := ?_)
          refine VE_iald dX5_against_53 h.1 ?_
          refine VE_icmp_gt 70 dX5_against_54 (fun c5 => ?_) (fun c5 => ?_)
          · refine VE_iconst 3 dX5_against_70 (k := ?_)
            refine VE_goto 75 dX5_against_71 ?_
            exact VM_iret dX5_against_75 (((((h.2.1 c1).1 c2).1 c3).2 c4).1 c5)
          · refine VE_iload 4 dX5_against_57 (k := ?_)
            refine VE_aload_n 0 dX5_against_59 (k := ?_)
            refine VE_getR 25 dX5_against_60 fl_X5_13 ?_
            refine VE_iload_n 1 dX5_against_63 (k := ?_)
            refine VE_iald dX5_against_64 h.1 ?_
            refine VE_iload_n 3 dX5_against_65 (k := ?_)
            refine VE_isub dX5_against_66 ?_
            refine VE_icmp_le 74 dX5_against_67 (fun c6 => ?_) (fun c6 => ?_)
            · refine VE_iconst 0 dX5_against_74 (k := ?_)
              exact VM_iret dX5_against_75 ((((((h.2.1 c1).1 c2).1 c3).2 c4).2 c5).1 c6)
            · refine VE_iconst 3 dX5_against_70 (k := ?_)
              refine VE_goto 75 dX5_against_71 ?_
              exact VM_iret dX5_against_75 ((((((h.2.1 c1).1 c2).1 c3).2 c4).2 c5).2 c6)
      · refine VE_iconst 4 dX5_against_41 (k := ?_)
        exact VM_iret dX5_against_42 (((h.2.1 c1).1 c2).2 c3)
    · refine VE_iconst 1 dX5_against_34 (k := ?_)
      exact VM_iret dX5_against_35 ((h.2.1 c1).2 c2)
  · refine VE_aload_n 0 dX5_against_11 (k := ?_)
    refine VE_getR 24 dX5_against_12 fl_X5_9 ?_
    refine VE_iload_n 1 dX5_against_15 (k := ?_)
    refine VE_iald dX5_against_16 h.1 ?_
    refine VE_iload_n 2 dX5_against_17 (k := ?_)
    refine VE_icmp_eq 23 dX5_against_18 (fun c7 => ?_) (fun c7 => ?_)
    · refine VE_aload_n 0 dX5_against_23 (k := ?_)
      refine VE_getR 24 dX5_against_24 fl_X5_9 ?_
      refine VE_iload_n 1 dX5_against_27 (k := ?_)
      refine VE_iald dX5_against_28 h.1 ?_
      refine VE_bipush (-9) dX5_against_29 (k := ?_)
      refine VE_icmp_ne 36 dX5_against_31 (fun c8 => ?_) (fun c8 => ?_)
      · refine VE_iload 4 dX5_against_36 (k := ?_)
        refine VE_if_ge 43 dX5_against_38 (fun c9 => ?_) (fun c9 => ?_)
        · refine VE_iload_n 3 dX5_against_43 (k := ?_)
          refine VE_if_lt 70 dX5_against_44 (fun c10 => ?_) (fun c10 => ?_)
          · refine VE_iconst 3 dX5_against_70 (k := ?_)
            refine VE_goto 75 dX5_against_71 ?_
            exact VM_iret dX5_against_75 (((((h.2.2 c1).1 c7).1 c8).1 c9).1 c10)
          · refine VE_iload_n 3 dX5_against_47 (k := ?_)
            refine VE_aload_n 0 dX5_against_48 (k := ?_)
            refine VE_getR 25 dX5_against_49 fl_X5_13 ?_
            refine VE_iload_n 1 dX5_against_52 (k := ?_)
            refine VE_iald dX5_against_53 h.1 ?_
            refine VE_icmp_gt 70 dX5_against_54 (fun c11 => ?_) (fun c11 => ?_)
            · refine VE_iconst 3 dX5_against_70 (k := ?_)
              refine VE_goto 75 dX5_against_71 ?_
              exact VM_iret dX5_against_75 ((((((h.2.2 c1).1 c7).1 c8).1 c9).2 c10).1 c11)
            · refine VE_iload 4 dX5_against_57 (k := ?_)
              refine VE_aload_n 0 dX5_against_59 (k := ?_)
              refine VE_getR 25 dX5_against_60 fl_X5_13 ?_
              refine VE_iload_n 1 dX5_against_63 (k := ?_)
              refine VE_iald dX5_against_64 h.1 ?_
              refine VE_iload_n 3 dX5_against_65 (k := ?_)
              refine VE_isub dX5_against_66 ?_
              refine VE_icmp_le 74 dX5_against_67 (fun c12 => ?_) (fun c12 => ?_)
              · refine VE_iconst 0 dX5_against_74 (k := ?_)
                exact VM_iret dX5_against_75 (((((((h.2.2 c1).1 c7).1 c8).1 c9).2 c10).2 c11).1 c12)
              · refine VE_iconst 3 dX5_against_70 (k := ?_)
                refine VE_goto 75 dX5_against_71 ?_
                exact VM_iret dX5_against_75 (((((((h.2.2 c1).1 c7).1 c8).1 c9).2 c10).2 c11).2 c12)
        · refine VE_iconst 4 dX5_against_41 (k := ?_)
          exact VM_iret dX5_against_42 ((((h.2.2 c1).1 c7).1 c8).2 c9)
      · refine VE_iconst 1 dX5_against_34 (k := ?_)
        exact VM_iret dX5_against_35 (((h.2.2 c1).1 c7).2 c8)
    · refine VE_iconst 2 dX5_against_21 (k := ?_)
      exact VM_iret dX5_against_22 ((h.2.2 c1).2 c7)
theorem dX5_isHead_0 : decode cX5_isHead 0 = .ok (.iload_n 1, 1) := by decide +kernel
theorem dX5_isHead_1 : decode cX5_isHead 1 = .ok (.ifCond .lt 15, 3) := by decide +kernel
theorem dX5_isHead_4 : decode cX5_isHead 4 = .ok (.iload_n 1, 1) := by decide +kernel
theorem dX5_isHead_5 : decode cX5_isHead 5 = .ok (.aload_n 0, 1) := by decide +kernel
theorem dX5_isHead_6 : decode cX5_isHead 6 = .ok (.getfield 59, 3) := by decide +kernel
theorem dX5_isHead_9 : decode cX5_isHead 9 = .ok (.if_icmp .ge 7, 3) := by decide +kernel
theorem dX5_isHead_12 : decode cX5_isHead 12 = .ok (.iconst 1, 1) := by decide +kernel
theorem dX5_isHead_13 : decode cX5_isHead 13 = .ok (.goto 4, 3) := by decide +kernel
theorem dX5_isHead_16 : decode cX5_isHead 16 = .ok (.iconst 0, 1) := by decide +kernel
theorem dX5_isHead_17 : decode cX5_isHead 17 = .ok (.ireturn, 1) := by decide +kernel
set_option maxRecDepth 20000 in
theorem S_X5_isHead_0 {g : GG} {d : Nat} {F : Int32 → St → Prop} (a1 : Int32) (σ : St) (h : ((a1 < 0 → F 0 σ) ∧ (¬ a1 < 0 → (((σ 23 5) ≤ a1 → F 0 σ) ∧ (¬ (σ 23 5) ≤ a1 → F 1 σ))))) : VM g d M_X5_isHead (qI F) 0 [(0, vR 23), (1, vI a1)] [] σ := by
  refine VE_iload_n 1 dX5_isHead_0 (k := ?_)
  refine VE_if_lt 16 dX5_isHead_1 (fun c1 => ?_) (fun c1 => ?_)
  · refine VE_iconst 0 dX5_isHead_16 (k := ?_)
    exact VM_zret dX5_isHead_17 (h.1 c1) (by decide)
  · refine VE_iload_n 1 dX5_isHead_4 (k := ?_)
    refine VE_aload_n 0 dX5_isHead_5 (k := ?_)
    refine VE_getI dX5_isHead_6 fl_X5_59 ?_
    refine VE_icmp_ge 16 dX5_isHead_9 (fun c2 => ?_) (fun c2 => ?_)
    · refine VE_iconst 0 dX5_isHead_16 (k := ?_)
      exact VM_zret dX5_isHead_17 ((h.2 c1).1 c2) (by decide)
    · refine VE_iconst 1 dX5_isHead_12 (k := ?_)
      refine VE_goto 17 dX5_isHead_13 ?_
      exact VM_zret dX5_isHead_17 ((h.2 c1).2 c2) (by decide)
theorem dX5_digit_0 : decode cX5_digit 0 = .ok (.aload_n 0, 1) := by decide +kernel
theorem dX5_digit_1 : decode cX5_digit 1 = .ok (.getfield 62, 3) := by decide +kernel
theorem dX5_digit_4 : decode cX5_digit 4 = .ok (.iload_n 1, 1) := by decide +kernel
theorem dX5_digit_5 : decode cX5_digit 5 = .ok (.if_icmp .ge 26, 3) := by decide +kernel
theorem dX5_digit_8 : decode cX5_digit 8 = .ok (.aload_n 0, 1) := by decide +kernel
theorem dX5_digit_9 : decode cX5_digit 9 = .ok (.getfield 16, 3) := by decide +kernel
theorem dX5_digit_12 : decode cX5_digit 12 = .ok (.aload_n 0, 1) := by decide +kernel
theorem dX5_digit_13 : decode cX5_digit 13 = .ok (.getfield 62, 3) := by decide +kernel
theorem dX5_digit_16 : decode cX5_digit 16 = .ok (.iaload, 1) := by decide +kernel
theorem dX5_digit_17 : decode cX5_digit 17 = .ok (.bipush 48, 2) := by decide +kernel
theorem dX5_digit_19 : decode cX5_digit 19 = .ok (.iload_n 2, 1) := by decide +kernel
theorem dX5_digit_20 : decode cX5_digit 20 = .ok (.iadd, 1) := by decide +kernel
theorem dX5_digit_21 : decode cX5_digit 21 = .ok (.bipush 48, 2) := by decide +kernel
theorem dX5_digit_23 : decode cX5_digit 23 = .ok (.iload_n 3, 1) := by decide +kernel
theorem dX5_digit_24 : decode cX5_digit 24 = .ok (.iadd, 1) := by decide +kernel
theorem dX5_digit_25 : decode cX5_digit 25 = .ok (.invokestatic 55, 3) := by decide +kernel
theorem dX5_digit_28 : decode cX5_digit 28 = .ok (.ifCond .ne 6, 3) := by decide +kernel
theorem dX5_digit_31 : decode cX5_digit 31 = .ok (.bipush (-9), 2) := by decide +kernel
theorem dX5_digit_33 : decode cX5_digit 33 = .ok (.ireturn, 1) := by decide +kernel
theorem dX5_digit_34 : decode cX5_digit 34 = .ok (.aload_n 0, 1) := by decide +kernel
theorem dX5_digit_35 : decode cX5_digit 35 = .ok (.dup, 1) := by decide +kernel
theorem dX5_digit_36 : decode cX5_digit 36 = .ok (.getfield 62, 3) := by decide +kernel
theorem dX5_digit_39 : decode cX5_digit 39 = .ok (.iconst 1, 1) := by decide +kernel
theorem dX5_digit_40 : decode cX5_digit 40 = .ok (.iadd, 1) := by decide +kernel
theorem dX5_digit_41 : decode cX5_digit 41 = .ok (.putfield 62, 3) := by decide +kernel
theorem dX5_digit_44 : decode cX5_digit 44 = .ok (.aload_n 0, 1) := by decide +kernel
theorem dX5_digit_45 : decode cX5_digit 45 = .ok (.getfield 16, 3) := by decide +kernel
theorem dX5_digit_48 : decode cX5_digit 48 = .ok (.aload_n 0, 1) := by decide +kernel
theorem dX5_digit_49 : decode cX5_digit 49 = .ok (.getfield 62, 3) := by decide +kernel
theorem dX5_digit_52 : decode cX5_digit 52 = .ok (.iconst 1, 1) := by decide +kernel
theorem dX5_digit_53 : decode cX5_digit 53 = .ok (.isub, 1) := by decide +kernel
theorem dX5_digit_54 : decode cX5_digit 54 = .ok (.iaload, 1) := by decide +kernel
theorem dX5_digit_55 : decode cX5_digit 55 = .ok (.bipush 48, 2) := by decide +kernel
theorem dX5_digit_57 : decode cX5_digit 57 = .ok (.isub, 1) := by decide +kernel
theorem dX5_digit_58 : decode cX5_digit 58 = .ok (.ireturn, 1) := by decide +kernel
set_option maxRecDepth 20000 in
theorem S_X5_digit_0 {g : GG} {d : Nat} {F : Int32 → St → Prop} (a1 : Int32) (a2 : Int32) (a3 : Int32) (σ : St) (h : ((a1 ≤ (σ 23 9) → F (-9) σ) ∧ (¬ a1 ≤ (σ 23 9) → (vp_in (σ 23 9) 240 ∧ (ME g d M_X5_within [vI (σ 26 ((σ 23 9).toNatClampNeg)), vI (48 + a2), vI (48 + a3)] σ (qI (fun r2 σ3 => ((¬ r2 = 0 → (vp_in (((σ3 23 9) + 1) - 1) 240 ∧ F ((σ3 26 ((((σ3 23 9) + 1) - 1).toNatClampNeg)) - 48) (sU σ3 23 9 ((σ3 23 9) + 1)))) ∧ (r2 = 0 → F (-9) σ3))))))))) : VM g (d + 1) M_X5_digit (qI F) 0 [(0, vR 23), (1, vI a1), (2, vI a2), (3, vI a3)] [] σ := by
  refine VE_aload_n 0 dX5_digit_0 (k := ?_)
  refine VE_getI dX5_digit_1 fl_X5_62 ?_
  refine VE_iload_n 1 dX5_digit_4 (k := ?_)
  refine VE_icmp_ge 31 dX5_digit_5 (fun c1 => ?_) (fun c1 => ?_)
  · refine VE_bipush (-9) dX5_digit_31 (k := ?_)
    exact VM_iret dX5_digit_33 (h.1 c1)
  · refine VE_aload_n 0 dX5_digit_8 (k := ?_)
    refine VE_getR 26 dX5_digit_9 fl_X5_16 ?_
    refine VE_aload_n 0 dX5_digit_12 (k := ?_)
    refine VE_getI dX5_digit_13 fl_X5_62 ?_
    refine VE_iald dX5_digit_16 (h.2 c1).1 ?_
    refine VE_bipush 48 dX5_digit_17 (k := ?_)
    refine VE_iload_n 2 dX5_digit_19 (k := ?_)
    refine VE_iadd dX5_digit_20 ?_
    refine VE_bipush 48 dX5_digit_21 (k := ?_)
    refine VE_iload_n 3 dX5_digit_23 (k := ?_)
    refine VE_iadd dX5_digit_24 ?_
    refine VE_cSi [vI (σ 26 ((σ 23 9).toNatClampNeg)), vI (48 + a2), vI (48 + a3)] dX5_digit_25 ml_X5_55 (h.2 c1).2 (fun r2 σ3 h4 => ?_) (rok_D d)
    refine VE_if_ne 34 dX5_digit_28 (fun c5 => ?_) (fun c5 => ?_)
    · refine VE_aload_n 0 dX5_digit_34 (k := ?_)
      refine VE_dup dX5_digit_35 (k := ?_)
      refine VE_getI dX5_digit_36 fl_X5_62 ?_
      refine VE_iconst 1 dX5_digit_39 (k := ?_)
      refine VE_iadd dX5_digit_40 ?_
      refine VE_put dX5_digit_41 fl_X5_62 ?_
      refine VE_aload_n 0 dX5_digit_44 (k := ?_)
      refine VE_getR 26 dX5_digit_45 fl_X5_16 ?_
      refine VE_aload_n 0 dX5_digit_48 (k := ?_)
      refine VE_getI dX5_digit_49 fl_X5_62 ?_
      refine VE_iconst 1 dX5_digit_52 (k := ?_)
      refine VE_isub dX5_digit_53 ?_
      refine VE_iald dX5_digit_54 (h4.1 c5).1 ?_
      refine VE_bipush 48 dX5_digit_55 (k := ?_)
      refine VE_isub dX5_digit_57 ?_
      exact VM_iret dX5_digit_58 (h4.1 c5).2
    · refine VE_bipush (-9) dX5_digit_31 (k := ?_)
      exact VM_iret dX5_digit_33 (h4.2 c5)
theorem dX5_isSign_0 : decode cX5_isSign 0 = .ok (.aload_n 0, 1) := by decide +kernel
theorem dX5_isSign_1 : decode cX5_isSign 1 = .ok (.getfield 62, 3) := by decide +kernel
theorem dX5_isSign_4 : decode cX5_isSign 4 = .ok (.iload_n 1, 1) := by decide +kernel
theorem dX5_isSign_5 : decode cX5_isSign 5 = .ok (.if_icmp .ge 16, 3) := by decide +kernel
theorem dX5_isSign_8 : decode cX5_isSign 8 = .ok (.aload_n 0, 1) := by decide +kernel
theorem dX5_isSign_9 : decode cX5_isSign 9 = .ok (.getfield 16, 3) := by decide +kernel
theorem dX5_isSign_12 : decode cX5_isSign 12 = .ok (.aload_n 0, 1) := by decide +kernel
theorem dX5_isSign_13 : decode cX5_isSign 13 = .ok (.getfield 62, 3) := by decide +kernel
theorem dX5_isSign_16 : decode cX5_isSign 16 = .ok (.iaload, 1) := by decide +kernel
theorem dX5_isSign_17 : decode cX5_isSign 17 = .ok (.iload_n 2, 1) := by decide +kernel
theorem dX5_isSign_18 : decode cX5_isSign 18 = .ok (.if_icmp .eq 5, 3) := by decide +kernel
theorem dX5_isSign_21 : decode cX5_isSign 21 = .ok (.iconst 0, 1) := by decide +kernel
theorem dX5_isSign_22 : decode cX5_isSign 22 = .ok (.ireturn, 1) := by decide +kernel
theorem dX5_isSign_23 : decode cX5_isSign 23 = .ok (.aload_n 0, 1) := by decide +kernel
theorem dX5_isSign_24 : decode cX5_isSign 24 = .ok (.dup, 1) := by decide +kernel
theorem dX5_isSign_25 : decode cX5_isSign 25 = .ok (.getfield 62, 3) := by decide +kernel
theorem dX5_isSign_28 : decode cX5_isSign 28 = .ok (.iconst 1, 1) := by decide +kernel
theorem dX5_isSign_29 : decode cX5_isSign 29 = .ok (.iadd, 1) := by decide +kernel
theorem dX5_isSign_30 : decode cX5_isSign 30 = .ok (.putfield 62, 3) := by decide +kernel
theorem dX5_isSign_33 : decode cX5_isSign 33 = .ok (.iconst 1, 1) := by decide +kernel
theorem dX5_isSign_34 : decode cX5_isSign 34 = .ok (.ireturn, 1) := by decide +kernel
set_option maxRecDepth 20000 in
theorem S_X5_isSign_0 {g : GG} {d : Nat} {F : Int32 → St → Prop} (a1 : Int32) (a2 : Int32) (σ : St) (h : ((a1 ≤ (σ 23 9) → F 0 σ) ∧ (¬ a1 ≤ (σ 23 9) → (vp_in (σ 23 9) 240 ∧ (((σ 26 ((σ 23 9).toNatClampNeg)) = a2 → F 1 (sU σ 23 9 ((σ 23 9) + 1))) ∧ (¬ (σ 26 ((σ 23 9).toNatClampNeg)) = a2 → F 0 σ)))))) : VM g d M_X5_isSign (qI F) 0 [(0, vR 23), (1, vI a1), (2, vI a2)] [] σ := by
  refine VE_aload_n 0 dX5_isSign_0 (k := ?_)
  refine VE_getI dX5_isSign_1 fl_X5_62 ?_
  refine VE_iload_n 1 dX5_isSign_4 (k := ?_)
  refine VE_icmp_ge 21 dX5_isSign_5 (fun c1 => ?_) (fun c1 => ?_)
  · refine VE_iconst 0 dX5_isSign_21 (k := ?_)
    exact VM_zret dX5_isSign_22 (h.1 c1) (by decide)
  · refine VE_aload_n 0 dX5_isSign_8 (k := ?_)
    refine VE_getR 26 dX5_isSign_9 fl_X5_16 ?_
    refine VE_aload_n 0 dX5_isSign_12 (k := ?_)
    refine VE_getI dX5_isSign_13 fl_X5_62 ?_
    refine VE_iald dX5_isSign_16 (h.2 c1).1 ?_
    refine VE_iload_n 2 dX5_isSign_17 (k := ?_)
    refine VE_icmp_eq 23 dX5_isSign_18 (fun c2 => ?_) (fun c2 => ?_)
    · refine VE_aload_n 0 dX5_isSign_23 (k := ?_)
      refine VE_dup dX5_isSign_24 (k := ?_)
      refine VE_getI dX5_isSign_25 fl_X5_62 ?_
      refine VE_iconst 1 dX5_isSign_28 (k := ?_)
      refine VE_iadd dX5_isSign_29 ?_
      refine VE_put dX5_isSign_30 fl_X5_62 ?_
      refine VE_iconst 1 dX5_isSign_33 (k := ?_)
      exact VM_zret dX5_isSign_34 ((h.2 c1).2.1 c2) (by decide)
    · refine VE_iconst 0 dX5_isSign_21 (k := ?_)
      exact VM_zret dX5_isSign_22 ((h.2 c1).2.2 c2) (by decide)
theorem dX5_court_0 : decode cX5_court 0 = .ok (.aload_n 0, 1) := by decide +kernel
theorem dX5_court_1 : decode cX5_court 1 = .ok (.iconst 0, 1) := by decide +kernel
theorem dX5_court_2 : decode cX5_court 2 = .ok (.putfield 49, 3) := by decide +kernel
theorem dX5_court_5 : decode cX5_court 5 = .ok (.iload_n 1, 1) := by decide +kernel
theorem dX5_court_6 : decode cX5_court 6 = .ok (.invokestatic 65, 3) := by decide +kernel
theorem dX5_court_9 : decode cX5_court 9 = .ok (.ifCond .ne 5, 3) := by decide +kernel
theorem dX5_court_12 : decode cX5_court 12 = .ok (.iconst (-1), 1) := by decide +kernel
theorem dX5_court_13 : decode cX5_court 13 = .ok (.ireturn, 1) := by decide +kernel
theorem dX5_court_14 : decode cX5_court 14 = .ok (.iload_n 2, 1) := by decide +kernel
theorem dX5_court_15 : decode cX5_court 15 = .ok (.invokestatic 69, 3) := by decide +kernel
theorem dX5_court_18 : decode cX5_court 18 = .ok (.ifCond .ne 6, 3) := by decide +kernel
theorem dX5_court_21 : decode cX5_court 21 = .ok (.bipush (-2), 2) := by decide +kernel
theorem dX5_court_23 : decode cX5_court 23 = .ok (.ireturn, 1) := by decide +kernel
theorem dX5_court_24 : decode cX5_court 24 = .ok (.aload_n 0, 1) := by decide +kernel
theorem dX5_court_25 : decode cX5_court 25 = .ok (.iload_n 1, 1) := by decide +kernel
theorem dX5_court_26 : decode cX5_court 26 = .ok (.iload_n 2, 1) := by decide +kernel
theorem dX5_court_27 : decode cX5_court 27 = .ok (.iload_n 3, 1) := by decide +kernel
theorem dX5_court_28 : decode cX5_court 28 = .ok (.iload 4, 2) := by decide +kernel
theorem dX5_court_30 : decode cX5_court 30 = .ok (.invokevirtual 72, 3) := by decide +kernel
theorem dX5_court_33 : decode cX5_court 33 = .ok (.istore 5, 2) := by decide +kernel
theorem dX5_court_35 : decode cX5_court 35 = .ok (.iload 5, 2) := by decide +kernel
theorem dX5_court_37 : decode cX5_court 37 = .ok (.ifCond .eq 10, 3) := by decide +kernel
theorem dX5_court_40 : decode cX5_court 40 = .ok (.aload_n 0, 1) := by decide +kernel
theorem dX5_court_41 : decode cX5_court 41 = .ok (.iload 5, 2) := by decide +kernel
theorem dX5_court_43 : decode cX5_court 43 = .ok (.invokevirtual 76, 3) := by decide +kernel
theorem dX5_court_46 : decode cX5_court 46 = .ok (.ireturn, 1) := by decide +kernel
theorem dX5_court_47 : decode cX5_court 47 = .ok (.bipush 60, 2) := by decide +kernel
theorem dX5_court_49 : decode cX5_court 49 = .ok (.iload_n 1, 1) := by decide +kernel
theorem dX5_court_50 : decode cX5_court 50 = .ok (.imul, 1) := by decide +kernel
theorem dX5_court_51 : decode cX5_court 51 = .ok (.iload_n 3, 1) := by decide +kernel
theorem dX5_court_52 : decode cX5_court 52 = .ok (.iadd, 1) := by decide +kernel
theorem dX5_court_53 : decode cX5_court 53 = .ok (.istore 6, 2) := by decide +kernel
theorem dX5_court_55 : decode cX5_court 55 = .ok (.aload_n 0, 1) := by decide +kernel
theorem dX5_court_56 : decode cX5_court 56 = .ok (.iload 6, 2) := by decide +kernel
theorem dX5_court_58 : decode cX5_court 58 = .ok (.putfield 62, 3) := by decide +kernel
theorem dX5_court_61 : decode cX5_court 61 = .ok (.aload_n 0, 1) := by decide +kernel
theorem dX5_court_62 : decode cX5_court 62 = .ok (.iload 6, 2) := by decide +kernel
theorem dX5_court_64 : decode cX5_court 64 = .ok (.iload 4, 2) := by decide +kernel
theorem dX5_court_66 : decode cX5_court 66 = .ok (.iadd, 1) := by decide +kernel
theorem dX5_court_67 : decode cX5_court 67 = .ok (.invokevirtual 80, 3) := by decide +kernel
theorem dX5_court_70 : decode cX5_court 70 = .ok (.ifCond .ne 14, 3) := by decide +kernel
theorem dX5_court_73 : decode cX5_court 73 = .ok (.bipush (-100), 2) := by decide +kernel
theorem dX5_court_75 : decode cX5_court 75 = .ok (.aload_n 0, 1) := by decide +kernel
theorem dX5_court_76 : decode cX5_court 76 = .ok (.getfield 62, 3) := by decide +kernel
theorem dX5_court_79 : decode cX5_court 79 = .ok (.iload 6, 2) := by decide +kernel
theorem dX5_court_81 : decode cX5_court 81 = .ok (.isub, 1) := by decide +kernel
theorem dX5_court_82 : decode cX5_court 82 = .ok (.isub, 1) := by decide +kernel
theorem dX5_court_83 : decode cX5_court 83 = .ok (.ireturn, 1) := by decide +kernel
theorem dX5_court_84 : decode cX5_court 84 = .ok (.aload_n 0, 1) := by decide +kernel
theorem dX5_court_85 : decode cX5_court 85 = .ok (.aload_n 0, 1) := by decide +kernel
theorem dX5_court_86 : decode cX5_court 86 = .ok (.getfield 83, 3) := by decide +kernel
theorem dX5_court_89 : decode cX5_court 89 = .ok (.putfield 59, 3) := by decide +kernel
theorem dX5_court_92 : decode cX5_court 92 = .ok (.iconst 0, 1) := by decide +kernel
theorem dX5_court_93 : decode cX5_court 93 = .ok (.istore 7, 2) := by decide +kernel
theorem dX5_court_95 : decode cX5_court 95 = .ok (.iload 7, 2) := by decide +kernel
theorem dX5_court_97 : decode cX5_court 97 = .ok (.aload_n 0, 1) := by decide +kernel
theorem dX5_court_98 : decode cX5_court 98 = .ok (.getfield 59, 3) := by decide +kernel
theorem dX5_court_101 : decode cX5_court 101 = .ok (.if_icmp .ge 61, 3) := by decide +kernel
theorem dX5_court_104 : decode cX5_court 104 = .ok (.aload_n 0, 1) := by decide +kernel
theorem dX5_court_105 : decode cX5_court 105 = .ok (.getfield 19, 3) := by decide +kernel
theorem dX5_court_108 : decode cX5_court 108 = .ok (.iload 7, 2) := by decide +kernel
theorem dX5_court_110 : decode cX5_court 110 = .ok (.aload_n 0, 1) := by decide +kernel
theorem dX5_court_111 : decode cX5_court 111 = .ok (.getfield 28, 3) := by decide +kernel
theorem dX5_court_114 : decode cX5_court 114 = .ok (.iconst 3, 1) := by decide +kernel
theorem dX5_court_115 : decode cX5_court 115 = .ok (.iload 7, 2) := by decide +kernel
theorem dX5_court_117 : decode cX5_court 117 = .ok (.imul, 1) := by decide +kernel
theorem dX5_court_118 : decode cX5_court 118 = .ok (.iaload, 1) := by decide +kernel
theorem dX5_court_119 : decode cX5_court 119 = .ok (.iastore, 1) := by decide +kernel
theorem dX5_court_120 : decode cX5_court 120 = .ok (.aload_n 0, 1) := by decide +kernel
theorem dX5_court_121 : decode cX5_court 121 = .ok (.getfield 22, 3) := by decide +kernel
theorem dX5_court_124 : decode cX5_court 124 = .ok (.iload 7, 2) := by decide +kernel
theorem dX5_court_126 : decode cX5_court 126 = .ok (.aload_n 0, 1) := by decide +kernel
theorem dX5_court_127 : decode cX5_court 127 = .ok (.getfield 28, 3) := by decide +kernel
theorem dX5_court_130 : decode cX5_court 130 = .ok (.iconst 3, 1) := by decide +kernel
theorem dX5_court_131 : decode cX5_court 131 = .ok (.iload 7, 2) := by decide +kernel
theorem dX5_court_133 : decode cX5_court 133 = .ok (.imul, 1) := by decide +kernel
theorem dX5_court_134 : decode cX5_court 134 = .ok (.iconst 1, 1) := by decide +kernel
theorem dX5_court_135 : decode cX5_court 135 = .ok (.iadd, 1) := by decide +kernel
theorem dX5_court_136 : decode cX5_court 136 = .ok (.iaload, 1) := by decide +kernel
theorem dX5_court_137 : decode cX5_court 137 = .ok (.iastore, 1) := by decide +kernel
theorem dX5_court_138 : decode cX5_court 138 = .ok (.aload_n 0, 1) := by decide +kernel
theorem dX5_court_139 : decode cX5_court 139 = .ok (.getfield 25, 3) := by decide +kernel
theorem dX5_court_142 : decode cX5_court 142 = .ok (.iload 7, 2) := by decide +kernel
theorem dX5_court_144 : decode cX5_court 144 = .ok (.aload_n 0, 1) := by decide +kernel
theorem dX5_court_145 : decode cX5_court 145 = .ok (.getfield 28, 3) := by decide +kernel
theorem dX5_court_148 : decode cX5_court 148 = .ok (.iconst 3, 1) := by decide +kernel
theorem dX5_court_149 : decode cX5_court 149 = .ok (.iload 7, 2) := by decide +kernel
theorem dX5_court_151 : decode cX5_court 151 = .ok (.imul, 1) := by decide +kernel
theorem dX5_court_152 : decode cX5_court 152 = .ok (.iconst 2, 1) := by decide +kernel
theorem dX5_court_153 : decode cX5_court 153 = .ok (.iadd, 1) := by decide +kernel
theorem dX5_court_154 : decode cX5_court 154 = .ok (.iaload, 1) := by decide +kernel
theorem dX5_court_155 : decode cX5_court 155 = .ok (.iastore, 1) := by decide +kernel
theorem dX5_court_156 : decode cX5_court 156 = .ok (.iinc 7 1, 3) := by decide +kernel
theorem dX5_court_159 : decode cX5_court 159 = .ok (.goto (-64), 3) := by decide +kernel
theorem dX5_court_162 : decode cX5_court 162 = .ok (.aload_n 0, 1) := by decide +kernel
theorem dX5_court_163 : decode cX5_court 163 = .ok (.iconst 0, 1) := by decide +kernel
theorem dX5_court_164 : decode cX5_court 164 = .ok (.putfield 86, 3) := by decide +kernel
theorem dX5_court_167 : decode cX5_court 167 = .ok (.aload_n 0, 1) := by decide +kernel
theorem dX5_court_168 : decode cX5_court 168 = .ok (.getfield 59, 3) := by decide +kernel
theorem dX5_court_171 : decode cX5_court 171 = .ok (.ireturn, 1) := by decide +kernel
set_option maxRecDepth 20000 in
theorem S_X5_court_0 {g : GG} {d : Nat} {F : Int32 → St → Prop} (a1 : Int32) (a2 : Int32) (a3 : Int32) (a4 : Int32) (σ : St) (h : (ME g d M_X5_isSheet [vI a1] (sU σ 23 0 0) (qI (fun r1 σ2 => ((¬ r1 = 0 → (ME g d M_X5_isSort [vI a2] σ2 (qI (fun r5 σ6 => ((¬ r5 = 0 → (ME g d M_X5_against [vR 23, vI a1, vI a2, vI a3, vI a4] σ6 (qI (fun r9 σ10 => ((r9 = 0 → (ME g d M_X5_readCourt [vR 23, vI (((60 * a1) + a3) + a4)] (sU σ10 23 9 ((60 * a1) + a3)) (qI (fun r13 σ14 => ((¬ r13 = 0 → VM g (d + 1) M_X5_court (qI F) 95 [(0, vR 23), (1, vI a1), (2, vI a2), (3, vI a3), (4, vI a4), (5, vI r9), (6, vI ((60 * a1) + a3)), (7, vI 0)] [] (sU σ14 23 5 (σ14 23 10))) ∧ (r13 = 0 → F ((-100) - ((σ14 23 9) - ((60 * a1) + a3))) σ14)))))) ∧ (¬ r9 = 0 → (ME g d M_X5_fails [vR 23, vI r9] σ10 (qI (fun r17 σ18 => F r17 σ18))))))))) ∧ (r5 = 0 → F (-2) σ6)))))) ∧ (r1 = 0 → F (-1) σ2)))))) : VM g (d + 1) M_X5_court (qI F) 0 [(0, vR 23), (1, vI a1), (2, vI a2), (3, vI a3), (4, vI a4)] [] σ := by
  refine VE_aload_n 0 dX5_court_0 (k := ?_)
  refine VE_iconst 0 dX5_court_1 (k := ?_)
  refine VE_put dX5_court_2 fl_X5_49 ?_
  refine VE_iload_n 1 dX5_court_5 (k := ?_)
  refine VE_cSi [vI a1] dX5_court_6 ml_X5_65 h (fun r1 σ2 h3 => ?_) (rok_D d)
  refine VE_if_ne 14 dX5_court_9 (fun c4 => ?_) (fun c4 => ?_)
  · refine VE_iload_n 2 dX5_court_14 (k := ?_)
    refine VE_cSi [vI a2] dX5_court_15 ml_X5_69 (h3.1 c4) (fun r5 σ6 h7 => ?_) (rok_D d)
    refine VE_if_ne 24 dX5_court_18 (fun c8 => ?_) (fun c8 => ?_)
    · refine VE_aload_n 0 dX5_court_24 (k := ?_)
      refine VE_iload_n 1 dX5_court_25 (k := ?_)
      refine VE_iload_n 2 dX5_court_26 (k := ?_)
      refine VE_iload_n 3 dX5_court_27 (k := ?_)
      refine VE_iload 4 dX5_court_28 (k := ?_)
      refine VE_cVi [vI a1, vI a2, vI a3, vI a4] dX5_court_30 ml_X5_72 (h7.1 c8) (fun r9 σ10 h11 => ?_) (rok_D d)
      refine VE_istore (ls' := [(5, vI r9), (0, vR 23), (1, vI a1), (2, vI a2), (3, vI a3), (4, vI a4)]) dX5_court_33 ?_
      refine VE_iload 0 dX5_court_35 (k := ?_)
      refine VE_if_eq 47 dX5_court_37 (fun c12 => ?_) (fun c12 => ?_)
      · refine VE_bipush 60 dX5_court_47 (k := ?_)
        refine VE_iload_n 2 dX5_court_49 (k := ?_)
        refine VE_imul dX5_court_50 ?_
        refine VE_iload_n 4 dX5_court_51 (k := ?_)
        refine VE_iadd dX5_court_52 ?_
        refine VE_istore (ls' := [(6, vI ((60 * a1) + a3)), (5, vI r9), (0, vR 23), (1, vI a1), (2, vI a2), (3, vI a3), (4, vI a4)]) dX5_court_53 ?_
        refine VE_aload_n 2 dX5_court_55 (k := ?_)
        refine VE_iload 0 dX5_court_56 (k := ?_)
        refine VE_put dX5_court_58 fl_X5_62 ?_
        refine VE_aload_n 2 dX5_court_61 (k := ?_)
        refine VE_iload 0 dX5_court_62 (k := ?_)
        refine VE_iload 6 dX5_court_64 (k := ?_)
        refine VE_iadd dX5_court_66 ?_
        refine VE_cVi [vI (((60 * a1) + a3) + a4)] dX5_court_67 ml_X5_80 (h11.1 c12) (fun r13 σ14 h15 => ?_) (rok_D d)
        refine VE_if_ne 84 dX5_court_70 (fun c16 => ?_) (fun c16 => ?_)
        · refine VE_aload_n 2 dX5_court_84 (k := ?_)
          refine VE_aload_n 2 dX5_court_85 (k := ?_)
          refine VE_getI dX5_court_86 fl_X5_83 ?_
          refine VE_put dX5_court_89 fl_X5_59 ?_
          refine VE_iconst 0 dX5_court_92 (k := ?_)
          refine VE_istore (ls' := [(7, vI 0), (6, vI ((60 * a1) + a3)), (5, vI r9), (0, vR 23), (1, vI a1), (2, vI a2), (3, vI a3), (4, vI a4)]) dX5_court_93 ?_
          exact VE_sub [3, 4, 5, 6, 7, 2, 1, 0] rfl (h15.1 c16)
        · refine VE_bipush (-100) dX5_court_73 (k := ?_)
          refine VE_aload_n 2 dX5_court_75 (k := ?_)
          refine VE_getI dX5_court_76 fl_X5_62 ?_
          refine VE_iload 0 dX5_court_79 (k := ?_)
          refine VE_isub dX5_court_81 ?_
          refine VE_isub dX5_court_82 ?_
          exact VM_iret dX5_court_83 (h15.2 c16)
      · refine VE_aload_n 1 dX5_court_40 (k := ?_)
        refine VE_iload 0 dX5_court_41 (k := ?_)
        refine VE_cVi [vI r9] dX5_court_43 ml_X5_76 (h11.2 c12) (fun r17 σ18 h19 => ?_) (rok_D d)
        exact VM_iret dX5_court_46 h19
    · refine VE_bipush (-2) dX5_court_21 (k := ?_)
      exact VM_iret dX5_court_23 (h7.2 c8)
  · refine VE_iconst (-1) dX5_court_12 (k := ?_)
    exact VM_iret dX5_court_13 (h3.2 c4)
set_option maxRecDepth 20000 in
theorem S_X5_court_95 {g : GG} {d : Nat} {F : Int32 → St → Prop} (x1 : Int32) (x2 : Int32) (x3 : Int32) (x4 : Int32) (x5 : Int32) (x6 : Int32) (x7 : Int32) (σ : St) (h : (((σ 23 5) ≤ x7 → F (σ 23 5) (sU σ 23 18 0)) ∧ (¬ (σ 23 5) ≤ x7 → (vp_in (3 * x7) 15 ∧ (vp_in x7 5 ∧ (vp_in ((3 * x7) + 1) 15 ∧ (vp_in ((3 * x7) + 2) 15 ∧ VM g (d + 1) M_X5_court (qI F) 95 [(0, vR 23), (1, vI x1), (2, vI x2), (3, vI x3), (4, vI x4), (5, vI x5), (6, vI x6), (7, vI (x7 + 1))] [] (sU (sU (sU σ 27 x7.toNatClampNeg (σ 30 ((3 * x7).toNatClampNeg))) 28 x7.toNatClampNeg (σ 30 (((3 * x7) + 1).toNatClampNeg))) 29 x7.toNatClampNeg (σ 30 (((3 * x7) + 2).toNatClampNeg)))))))))) : VM g (d + 1) M_X5_court (qI F) 95 [(0, vR 23), (1, vI x1), (2, vI x2), (3, vI x3), (4, vI x4), (5, vI x5), (6, vI x6), (7, vI x7)] [] σ := by
  refine VE_iload 7 dX5_court_95 (k := ?_)
  refine VE_aload_n 0 dX5_court_97 (k := ?_)
  refine VE_getI dX5_court_98 fl_X5_59 ?_
  refine VE_icmp_ge 162 dX5_court_101 (fun c1 => ?_) (fun c1 => ?_)
  · refine VE_aload_n 0 dX5_court_162 (k := ?_)
    refine VE_iconst 0 dX5_court_163 (k := ?_)
    refine VE_put dX5_court_164 fl_X5_86 ?_
    refine VE_aload_n 0 dX5_court_167 (k := ?_)
    refine VE_getI dX5_court_168 fl_X5_59 ?_
    exact VM_iret dX5_court_171 (h.1 c1)
  · refine VE_aload_n 0 dX5_court_104 (k := ?_)
    refine VE_getR 27 dX5_court_105 fl_X5_19 ?_
    refine VE_iload 7 dX5_court_108 (k := ?_)
    refine VE_aload_n 0 dX5_court_110 (k := ?_)
    refine VE_getR 30 dX5_court_111 fl_X5_28 ?_
    refine VE_iconst 3 dX5_court_114 (k := ?_)
    refine VE_iload 7 dX5_court_115 (k := ?_)
    refine VE_imul dX5_court_117 ?_
    refine VE_iald dX5_court_118 (h.2 c1).1 ?_
    refine VE_iast dX5_court_119 (h.2 c1).2.1 ?_
    refine VE_aload_n 0 dX5_court_120 (k := ?_)
    refine VE_getR 28 dX5_court_121 fl_X5_22 ?_
    refine VE_iload 7 dX5_court_124 (k := ?_)
    refine VE_aload_n 0 dX5_court_126 (k := ?_)
    refine VE_getR 30 dX5_court_127 fl_X5_28 ?_
    refine VE_iconst 3 dX5_court_130 (k := ?_)
    refine VE_iload 7 dX5_court_131 (k := ?_)
    refine VE_imul dX5_court_133 ?_
    refine VE_iconst 1 dX5_court_134 (k := ?_)
    refine VE_iadd dX5_court_135 ?_
    refine VE_iald dX5_court_136 (h.2 c1).2.2.1 ?_
    refine VE_iast dX5_court_137 (h.2 c1).2.1 ?_
    refine VE_aload_n 0 dX5_court_138 (k := ?_)
    refine VE_getR 29 dX5_court_139 fl_X5_25 ?_
    refine VE_iload 7 dX5_court_142 (k := ?_)
    refine VE_aload_n 0 dX5_court_144 (k := ?_)
    refine VE_getR 30 dX5_court_145 fl_X5_28 ?_
    refine VE_iconst 3 dX5_court_148 (k := ?_)
    refine VE_iload 7 dX5_court_149 (k := ?_)
    refine VE_imul dX5_court_151 ?_
    refine VE_iconst 2 dX5_court_152 (k := ?_)
    refine VE_iadd dX5_court_153 ?_
    refine VE_iald dX5_court_154 (h.2 c1).2.2.2.1 ?_
    refine VE_iast dX5_court_155 (h.2 c1).2.1 ?_
    refine VE_iinc 7 (x7 + 1) (ls' := [(7, vI (x7 + 1)), (0, vR 23), (1, vI x1), (2, vI x2), (3, vI x3), (4, vI x4), (5, vI x5), (6, vI x6)]) dX5_court_156 ?_
    refine VE_goto 95 dX5_court_159 ?_
    exact VE_sub [1, 2, 3, 4, 5, 6, 7, 0] rfl (h.2 c1).2.2.2.2
theorem dX5_readCourt_0 : decode cX5_readCourt 0 = .ok (.aload_n 0, 1) := by decide +kernel
theorem dX5_readCourt_1 : decode cX5_readCourt 1 = .ok (.iconst 0, 1) := by decide +kernel
theorem dX5_readCourt_2 : decode cX5_readCourt 2 = .ok (.putfield 83, 3) := by decide +kernel
theorem dX5_readCourt_5 : decode cX5_readCourt 5 = .ok (.aload_n 0, 1) := by decide +kernel
theorem dX5_readCourt_6 : decode cX5_readCourt 6 = .ok (.iload_n 1, 1) := by decide +kernel
theorem dX5_readCourt_7 : decode cX5_readCourt 7 = .ok (.bipush 109, 2) := by decide +kernel
theorem dX5_readCourt_9 : decode cX5_readCourt 9 = .ok (.invokevirtual 89, 3) := by decide +kernel
theorem dX5_readCourt_12 : decode cX5_readCourt 12 = .ok (.ifCond .ne 5, 3) := by decide +kernel
theorem dX5_readCourt_15 : decode cX5_readCourt 15 = .ok (.iconst 0, 1) := by decide +kernel
theorem dX5_readCourt_16 : decode cX5_readCourt 16 = .ok (.ireturn, 1) := by decide +kernel
theorem dX5_readCourt_17 : decode cX5_readCourt 17 = .ok (.aload_n 0, 1) := by decide +kernel
theorem dX5_readCourt_18 : decode cX5_readCourt 18 = .ok (.getfield 83, 3) := by decide +kernel
theorem dX5_readCourt_21 : decode cX5_readCourt 21 = .ok (.iconst 2, 1) := by decide +kernel
theorem dX5_readCourt_22 : decode cX5_readCourt 22 = .ok (.if_icmp .lt 19, 3) := by decide +kernel
theorem dX5_readCourt_25 : decode cX5_readCourt 25 = .ok (.aload_n 0, 1) := by decide +kernel
theorem dX5_readCourt_26 : decode cX5_readCourt 26 = .ok (.getfield 83, 3) := by decide +kernel
theorem dX5_readCourt_29 : decode cX5_readCourt 29 = .ok (.iconst 5, 1) := by decide +kernel
theorem dX5_readCourt_30 : decode cX5_readCourt 30 = .ok (.if_icmp .ge 31, 3) := by decide +kernel
theorem dX5_readCourt_33 : decode cX5_readCourt 33 = .ok (.aload_n 0, 1) := by decide +kernel
theorem dX5_readCourt_34 : decode cX5_readCourt 34 = .ok (.getfield 62, 3) := by decide +kernel
theorem dX5_readCourt_37 : decode cX5_readCourt 37 = .ok (.iload_n 1, 1) := by decide +kernel
theorem dX5_readCourt_38 : decode cX5_readCourt 38 = .ok (.if_icmp .ge 23, 3) := by decide +kernel
theorem dX5_readCourt_41 : decode cX5_readCourt 41 = .ok (.aload_n 0, 1) := by decide +kernel
theorem dX5_readCourt_42 : decode cX5_readCourt 42 = .ok (.iload_n 1, 1) := by decide +kernel
theorem dX5_readCourt_43 : decode cX5_readCourt 43 = .ok (.bipush 59, 2) := by decide +kernel
theorem dX5_readCourt_45 : decode cX5_readCourt 45 = .ok (.invokevirtual 89, 3) := by decide +kernel
theorem dX5_readCourt_48 : decode cX5_readCourt 48 = .ok (.ifCond .eq 11, 3) := by decide +kernel
theorem dX5_readCourt_51 : decode cX5_readCourt 51 = .ok (.aload_n 0, 1) := by decide +kernel
theorem dX5_readCourt_52 : decode cX5_readCourt 52 = .ok (.iload_n 1, 1) := by decide +kernel
theorem dX5_readCourt_53 : decode cX5_readCourt 53 = .ok (.invokevirtual 93, 3) := by decide +kernel
theorem dX5_readCourt_56 : decode cX5_readCourt 56 = .ok (.ifCond .ne (-39), 3) := by decide +kernel
theorem dX5_readCourt_59 : decode cX5_readCourt 59 = .ok (.iconst 0, 1) := by decide +kernel
theorem dX5_readCourt_60 : decode cX5_readCourt 60 = .ok (.ireturn, 1) := by decide +kernel
theorem dX5_readCourt_61 : decode cX5_readCourt 61 = .ok (.aload_n 0, 1) := by decide +kernel
theorem dX5_readCourt_62 : decode cX5_readCourt 62 = .ok (.getfield 62, 3) := by decide +kernel
theorem dX5_readCourt_65 : decode cX5_readCourt 65 = .ok (.iload_n 1, 1) := by decide +kernel
theorem dX5_readCourt_66 : decode cX5_readCourt 66 = .ok (.if_icmp .ne 7, 3) := by decide +kernel
theorem dX5_readCourt_69 : decode cX5_readCourt 69 = .ok (.iconst 1, 1) := by decide +kernel
theorem dX5_readCourt_70 : decode cX5_readCourt 70 = .ok (.goto 4, 3) := by decide +kernel
theorem dX5_readCourt_73 : decode cX5_readCourt 73 = .ok (.iconst 0, 1) := by decide +kernel
theorem dX5_readCourt_74 : decode cX5_readCourt 74 = .ok (.ireturn, 1) := by decide +kernel
set_option maxRecDepth 20000 in
theorem S_X5_readCourt_0 {g : GG} {d : Nat} {F : Int32 → St → Prop} (a1 : Int32) (σ : St) (h : (ME g d M_X5_isSign [vR 23, vI a1, vI 109] (sU σ 23 10 0) (qI (fun r1 σ2 => ((¬ r1 = 0 → VM g (d + 1) M_X5_readCourt (qI F) 17 [(0, vR 23), (1, vI a1)] [] σ2) ∧ (r1 = 0 → F 0 σ2)))))) : VM g (d + 1) M_X5_readCourt (qI F) 0 [(0, vR 23), (1, vI a1)] [] σ := by
  refine VE_aload_n 0 dX5_readCourt_0 (k := ?_)
  refine VE_iconst 0 dX5_readCourt_1 (k := ?_)
  refine VE_put dX5_readCourt_2 fl_X5_83 ?_
  refine VE_aload_n 0 dX5_readCourt_5 (k := ?_)
  refine VE_iload_n 1 dX5_readCourt_6 (k := ?_)
  refine VE_bipush 109 dX5_readCourt_7 (k := ?_)
  refine VE_cVi [vI a1, vI 109] dX5_readCourt_9 ml_X5_89 h (fun r1 σ2 h3 => ?_) (rok_D d)
  refine VE_if_ne 17 dX5_readCourt_12 (fun c4 => ?_) (fun c4 => ?_)
  · exact VE_sub [0, 1] rfl (h3.1 c4)
  · refine VE_iconst 0 dX5_readCourt_15 (k := ?_)
    exact VM_zret dX5_readCourt_16 (h3.2 c4) (by decide)
set_option maxRecDepth 20000 in
theorem S_X5_readCourt_17 {g : GG} {d : Nat} {F : Int32 → St → Prop} (x1 : Int32) (σ : St) (h : (((σ 23 10) < 2 → (ME g d M_X5_isSign [vR 23, vI x1, vI 59] σ (qI (fun r2 σ3 => ((r2 = 0 → F 0 σ3) ∧ (¬ r2 = 0 → (ME g d M_X5_readHead [vR 23, vI x1] σ3 (qI (fun r6 σ7 => ((¬ r6 = 0 → VM g (d + 1) M_X5_readCourt (qI F) 17 [(0, vR 23), (1, vI x1)] [] σ7) ∧ (r6 = 0 → F 0 σ7))))))))))) ∧ (¬ (σ 23 10) < 2 → ((5 ≤ (σ 23 10) → ((¬ (σ 23 9) = x1 → F 0 σ) ∧ ((σ 23 9) = x1 → F 1 σ))) ∧ (¬ 5 ≤ (σ 23 10) → ((x1 ≤ (σ 23 9) → ((¬ (σ 23 9) = x1 → F 0 σ) ∧ ((σ 23 9) = x1 → F 1 σ))) ∧ (¬ x1 ≤ (σ 23 9) → (ME g d M_X5_isSign [vR 23, vI x1, vI 59] σ (qI (fun r14 σ15 => ((r14 = 0 → F 0 σ15) ∧ (¬ r14 = 0 → (ME g d M_X5_readHead [vR 23, vI x1] σ15 (qI (fun r18 σ19 => ((¬ r18 = 0 → VM g (d + 1) M_X5_readCourt (qI F) 17 [(0, vR 23), (1, vI x1)] [] σ19) ∧ (r18 = 0 → F 0 σ19))))))))))))))))) : VM g (d + 1) M_X5_readCourt (qI F) 17 [(0, vR 23), (1, vI x1)] [] σ := by
  refine VE_aload_n 0 dX5_readCourt_17 (k := ?_)
  refine VE_getI dX5_readCourt_18 fl_X5_83 ?_
  refine VE_iconst 2 dX5_readCourt_21 (k := ?_)
  refine VE_icmp_lt 41 dX5_readCourt_22 (fun c1 => ?_) (fun c1 => ?_)
  · refine VE_aload_n 0 dX5_readCourt_41 (k := ?_)
    refine VE_iload_n 1 dX5_readCourt_42 (k := ?_)
    refine VE_bipush 59 dX5_readCourt_43 (k := ?_)
    refine VE_cVi [vI x1, vI 59] dX5_readCourt_45 ml_X5_89 (h.1 c1) (fun r2 σ3 h4 => ?_) (rok_D d)
    refine VE_if_eq 59 dX5_readCourt_48 (fun c5 => ?_) (fun c5 => ?_)
    · refine VE_iconst 0 dX5_readCourt_59 (k := ?_)
      exact VM_zret dX5_readCourt_60 (h4.1 c5) (by decide)
    · refine VE_aload_n 0 dX5_readCourt_51 (k := ?_)
      refine VE_iload_n 1 dX5_readCourt_52 (k := ?_)
      refine VE_cVi [vI x1] dX5_readCourt_53 ml_X5_93 (h4.2 c5) (fun r6 σ7 h8 => ?_) (rok_D d)
      refine VE_if_ne 17 dX5_readCourt_56 (fun c9 => ?_) (fun c9 => ?_)
      · exact VE_sub [0, 1] rfl (h8.1 c9)
      · refine VE_iconst 0 dX5_readCourt_59 (k := ?_)
        exact VM_zret dX5_readCourt_60 (h8.2 c9) (by decide)
  · refine VE_aload_n 0 dX5_readCourt_25 (k := ?_)
    refine VE_getI dX5_readCourt_26 fl_X5_83 ?_
    refine VE_iconst 5 dX5_readCourt_29 (k := ?_)
    refine VE_icmp_ge 61 dX5_readCourt_30 (fun c10 => ?_) (fun c10 => ?_)
    · refine VE_aload_n 0 dX5_readCourt_61 (k := ?_)
      refine VE_getI dX5_readCourt_62 fl_X5_62 ?_
      refine VE_iload_n 1 dX5_readCourt_65 (k := ?_)
      refine VE_icmp_ne 73 dX5_readCourt_66 (fun c11 => ?_) (fun c11 => ?_)
      · refine VE_iconst 0 dX5_readCourt_73 (k := ?_)
        exact VM_zret dX5_readCourt_74 (((h.2 c1).1 c10).1 c11) (by decide)
      · refine VE_iconst 1 dX5_readCourt_69 (k := ?_)
        refine VE_goto 74 dX5_readCourt_70 ?_
        exact VM_zret dX5_readCourt_74 (((h.2 c1).1 c10).2 c11) (by decide)
    · refine VE_aload_n 0 dX5_readCourt_33 (k := ?_)
      refine VE_getI dX5_readCourt_34 fl_X5_62 ?_
      refine VE_iload_n 1 dX5_readCourt_37 (k := ?_)
      refine VE_icmp_ge 61 dX5_readCourt_38 (fun c12 => ?_) (fun c12 => ?_)
      · refine VE_aload_n 0 dX5_readCourt_61 (k := ?_)
        refine VE_getI dX5_readCourt_62 fl_X5_62 ?_
        refine VE_iload_n 1 dX5_readCourt_65 (k := ?_)
        refine VE_icmp_ne 73 dX5_readCourt_66 (fun c13 => ?_) (fun c13 => ?_)
        · refine VE_iconst 0 dX5_readCourt_73 (k := ?_)
          exact VM_zret dX5_readCourt_74 ((((h.2 c1).2 c10).1 c12).1 c13) (by decide)
        · refine VE_iconst 1 dX5_readCourt_69 (k := ?_)
          refine VE_goto 74 dX5_readCourt_70 ?_
          exact VM_zret dX5_readCourt_74 ((((h.2 c1).2 c10).1 c12).2 c13) (by decide)
      · refine VE_aload_n 0 dX5_readCourt_41 (k := ?_)
        refine VE_iload_n 1 dX5_readCourt_42 (k := ?_)
        refine VE_bipush 59 dX5_readCourt_43 (k := ?_)
        refine VE_cVi [vI x1, vI 59] dX5_readCourt_45 ml_X5_89 (((h.2 c1).2 c10).2 c12) (fun r14 σ15 h16 => ?_) (rok_D d)
        refine VE_if_eq 59 dX5_readCourt_48 (fun c17 => ?_) (fun c17 => ?_)
        · refine VE_iconst 0 dX5_readCourt_59 (k := ?_)
          exact VM_zret dX5_readCourt_60 (h16.1 c17) (by decide)
        · refine VE_aload_n 0 dX5_readCourt_51 (k := ?_)
          refine VE_iload_n 1 dX5_readCourt_52 (k := ?_)
          refine VE_cVi [vI x1] dX5_readCourt_53 ml_X5_93 (h16.2 c17) (fun r18 σ19 h20 => ?_) (rok_D d)
          refine VE_if_ne 17 dX5_readCourt_56 (fun c21 => ?_) (fun c21 => ?_)
          · exact VE_sub [0, 1] rfl (h20.1 c21)
          · refine VE_iconst 0 dX5_readCourt_59 (k := ?_)
            exact VM_zret dX5_readCourt_60 (h20.2 c21) (by decide)
theorem dX5_readHead_0 : decode cX5_readHead 0 = .ok (.iconst 3, 1) := by decide +kernel
theorem dX5_readHead_1 : decode cX5_readHead 1 = .ok (.aload_n 0, 1) := by decide +kernel
theorem dX5_readHead_2 : decode cX5_readHead 2 = .ok (.getfield 83, 3) := by decide +kernel
theorem dX5_readHead_5 : decode cX5_readHead 5 = .ok (.imul, 1) := by decide +kernel
theorem dX5_readHead_6 : decode cX5_readHead 6 = .ok (.istore_n 2, 1) := by decide +kernel
theorem dX5_readHead_7 : decode cX5_readHead 7 = .ok (.aload_n 0, 1) := by decide +kernel
theorem dX5_readHead_8 : decode cX5_readHead 8 = .ok (.getfield 62, 3) := by decide +kernel
theorem dX5_readHead_11 : decode cX5_readHead 11 = .ok (.iload_n 1, 1) := by decide +kernel
theorem dX5_readHead_12 : decode cX5_readHead 12 = .ok (.if_icmp .ge 15, 3) := by decide +kernel
theorem dX5_readHead_15 : decode cX5_readHead 15 = .ok (.aload_n 0, 1) := by decide +kernel
theorem dX5_readHead_16 : decode cX5_readHead 16 = .ok (.getfield 16, 3) := by decide +kernel
theorem dX5_readHead_19 : decode cX5_readHead 19 = .ok (.aload_n 0, 1) := by decide +kernel
theorem dX5_readHead_20 : decode cX5_readHead 20 = .ok (.getfield 62, 3) := by decide +kernel
theorem dX5_readHead_23 : decode cX5_readHead 23 = .ok (.iaload, 1) := by decide +kernel
theorem dX5_readHead_24 : decode cX5_readHead 24 = .ok (.goto 4, 3) := by decide +kernel
theorem dX5_readHead_27 : decode cX5_readHead 27 = .ok (.iconst 0, 1) := by decide +kernel
theorem dX5_readHead_28 : decode cX5_readHead 28 = .ok (.istore_n 3, 1) := by decide +kernel
theorem dX5_readHead_29 : decode cX5_readHead 29 = .ok (.aload_n 0, 1) := by decide +kernel
theorem dX5_readHead_30 : decode cX5_readHead 30 = .ok (.getfield 28, 3) := by decide +kernel
theorem dX5_readHead_33 : decode cX5_readHead 33 = .ok (.iload_n 2, 1) := by decide +kernel
theorem dX5_readHead_34 : decode cX5_readHead 34 = .ok (.iload_n 3, 1) := by decide +kernel
theorem dX5_readHead_35 : decode cX5_readHead 35 = .ok (.bipush 104, 2) := by decide +kernel
theorem dX5_readHead_37 : decode cX5_readHead 37 = .ok (.if_icmp .ne 7, 3) := by decide +kernel
theorem dX5_readHead_40 : decode cX5_readHead 40 = .ok (.iconst 0, 1) := by decide +kernel
theorem dX5_readHead_41 : decode cX5_readHead 41 = .ok (.goto 25, 3) := by decide +kernel
theorem dX5_readHead_44 : decode cX5_readHead 44 = .ok (.iload_n 3, 1) := by decide +kernel
theorem dX5_readHead_45 : decode cX5_readHead 45 = .ok (.bipush 108, 2) := by decide +kernel
theorem dX5_readHead_47 : decode cX5_readHead 47 = .ok (.if_icmp .ne 7, 3) := by decide +kernel
theorem dX5_readHead_50 : decode cX5_readHead 50 = .ok (.iconst 1, 1) := by decide +kernel
theorem dX5_readHead_51 : decode cX5_readHead 51 = .ok (.goto 15, 3) := by decide +kernel
theorem dX5_readHead_54 : decode cX5_readHead 54 = .ok (.iload_n 3, 1) := by decide +kernel
theorem dX5_readHead_55 : decode cX5_readHead 55 = .ok (.bipush 115, 2) := by decide +kernel
theorem dX5_readHead_57 : decode cX5_readHead 57 = .ok (.if_icmp .ne 7, 3) := by decide +kernel
theorem dX5_readHead_60 : decode cX5_readHead 60 = .ok (.iconst 2, 1) := by decide +kernel
theorem dX5_readHead_61 : decode cX5_readHead 61 = .ok (.goto 5, 3) := by decide +kernel
theorem dX5_readHead_64 : decode cX5_readHead 64 = .ok (.bipush (-9), 2) := by decide +kernel
theorem dX5_readHead_66 : decode cX5_readHead 66 = .ok (.iastore, 1) := by decide +kernel
theorem dX5_readHead_67 : decode cX5_readHead 67 = .ok (.aload_n 0, 1) := by decide +kernel
theorem dX5_readHead_68 : decode cX5_readHead 68 = .ok (.getfield 28, 3) := by decide +kernel
theorem dX5_readHead_71 : decode cX5_readHead 71 = .ok (.iload_n 2, 1) := by decide +kernel
theorem dX5_readHead_72 : decode cX5_readHead 72 = .ok (.iaload, 1) := by decide +kernel
theorem dX5_readHead_73 : decode cX5_readHead 73 = .ok (.bipush (-9), 2) := by decide +kernel
theorem dX5_readHead_75 : decode cX5_readHead 75 = .ok (.if_icmp .ne 5, 3) := by decide +kernel
theorem dX5_readHead_78 : decode cX5_readHead 78 = .ok (.iconst 0, 1) := by decide +kernel
theorem dX5_readHead_79 : decode cX5_readHead 79 = .ok (.ireturn, 1) := by decide +kernel
theorem dX5_readHead_80 : decode cX5_readHead 80 = .ok (.aload_n 0, 1) := by decide +kernel
theorem dX5_readHead_81 : decode cX5_readHead 81 = .ok (.dup, 1) := by decide +kernel
theorem dX5_readHead_82 : decode cX5_readHead 82 = .ok (.getfield 62, 3) := by decide +kernel
theorem dX5_readHead_85 : decode cX5_readHead 85 = .ok (.iconst 1, 1) := by decide +kernel
theorem dX5_readHead_86 : decode cX5_readHead 86 = .ok (.iadd, 1) := by decide +kernel
theorem dX5_readHead_87 : decode cX5_readHead 87 = .ok (.putfield 62, 3) := by decide +kernel
theorem dX5_readHead_90 : decode cX5_readHead 90 = .ok (.aload_n 0, 1) := by decide +kernel
theorem dX5_readHead_91 : decode cX5_readHead 91 = .ok (.getfield 28, 3) := by decide +kernel
theorem dX5_readHead_94 : decode cX5_readHead 94 = .ok (.iload_n 2, 1) := by decide +kernel
theorem dX5_readHead_95 : decode cX5_readHead 95 = .ok (.iconst 1, 1) := by decide +kernel
theorem dX5_readHead_96 : decode cX5_readHead 96 = .ok (.iadd, 1) := by decide +kernel
theorem dX5_readHead_97 : decode cX5_readHead 97 = .ok (.aload_n 0, 1) := by decide +kernel
theorem dX5_readHead_98 : decode cX5_readHead 98 = .ok (.iload_n 1, 1) := by decide +kernel
theorem dX5_readHead_99 : decode cX5_readHead 99 = .ok (.iconst 1, 1) := by decide +kernel
theorem dX5_readHead_100 : decode cX5_readHead 100 = .ok (.bipush 9, 2) := by decide +kernel
theorem dX5_readHead_102 : decode cX5_readHead 102 = .ok (.invokevirtual 96, 3) := by decide +kernel
theorem dX5_readHead_105 : decode cX5_readHead 105 = .ok (.iastore, 1) := by decide +kernel
theorem dX5_readHead_106 : decode cX5_readHead 106 = .ok (.aload_n 0, 1) := by decide +kernel
theorem dX5_readHead_107 : decode cX5_readHead 107 = .ok (.getfield 28, 3) := by decide +kernel
theorem dX5_readHead_110 : decode cX5_readHead 110 = .ok (.iload_n 2, 1) := by decide +kernel
theorem dX5_readHead_111 : decode cX5_readHead 111 = .ok (.iconst 1, 1) := by decide +kernel
theorem dX5_readHead_112 : decode cX5_readHead 112 = .ok (.iadd, 1) := by decide +kernel
theorem dX5_readHead_113 : decode cX5_readHead 113 = .ok (.iaload, 1) := by decide +kernel
theorem dX5_readHead_114 : decode cX5_readHead 114 = .ok (.bipush (-9), 2) := by decide +kernel
theorem dX5_readHead_116 : decode cX5_readHead 116 = .ok (.if_icmp .ne 5, 3) := by decide +kernel
theorem dX5_readHead_119 : decode cX5_readHead 119 = .ok (.iconst 0, 1) := by decide +kernel
theorem dX5_readHead_120 : decode cX5_readHead 120 = .ok (.ireturn, 1) := by decide +kernel
theorem dX5_readHead_121 : decode cX5_readHead 121 = .ok (.aload_n 0, 1) := by decide +kernel
theorem dX5_readHead_122 : decode cX5_readHead 122 = .ok (.getfield 28, 3) := by decide +kernel
theorem dX5_readHead_125 : decode cX5_readHead 125 = .ok (.iload_n 2, 1) := by decide +kernel
theorem dX5_readHead_126 : decode cX5_readHead 126 = .ok (.iconst 2, 1) := by decide +kernel
theorem dX5_readHead_127 : decode cX5_readHead 127 = .ok (.iadd, 1) := by decide +kernel
theorem dX5_readHead_128 : decode cX5_readHead 128 = .ok (.aload_n 0, 1) := by decide +kernel
theorem dX5_readHead_129 : decode cX5_readHead 129 = .ok (.iload_n 1, 1) := by decide +kernel
theorem dX5_readHead_130 : decode cX5_readHead 130 = .ok (.iconst 0, 1) := by decide +kernel
theorem dX5_readHead_131 : decode cX5_readHead 131 = .ok (.iconst 5, 1) := by decide +kernel
theorem dX5_readHead_132 : decode cX5_readHead 132 = .ok (.invokevirtual 96, 3) := by decide +kernel
theorem dX5_readHead_135 : decode cX5_readHead 135 = .ok (.iastore, 1) := by decide +kernel
theorem dX5_readHead_136 : decode cX5_readHead 136 = .ok (.aload_n 0, 1) := by decide +kernel
theorem dX5_readHead_137 : decode cX5_readHead 137 = .ok (.dup, 1) := by decide +kernel
theorem dX5_readHead_138 : decode cX5_readHead 138 = .ok (.getfield 83, 3) := by decide +kernel
theorem dX5_readHead_141 : decode cX5_readHead 141 = .ok (.iconst 1, 1) := by decide +kernel
theorem dX5_readHead_142 : decode cX5_readHead 142 = .ok (.iadd, 1) := by decide +kernel
theorem dX5_readHead_143 : decode cX5_readHead 143 = .ok (.putfield 83, 3) := by decide +kernel
theorem dX5_readHead_146 : decode cX5_readHead 146 = .ok (.aload_n 0, 1) := by decide +kernel
theorem dX5_readHead_147 : decode cX5_readHead 147 = .ok (.getfield 28, 3) := by decide +kernel
theorem dX5_readHead_150 : decode cX5_readHead 150 = .ok (.iload_n 2, 1) := by decide +kernel
theorem dX5_readHead_151 : decode cX5_readHead 151 = .ok (.iconst 2, 1) := by decide +kernel
theorem dX5_readHead_152 : decode cX5_readHead 152 = .ok (.iadd, 1) := by decide +kernel
theorem dX5_readHead_153 : decode cX5_readHead 153 = .ok (.iaload, 1) := by decide +kernel
theorem dX5_readHead_154 : decode cX5_readHead 154 = .ok (.bipush (-9), 2) := by decide +kernel
theorem dX5_readHead_156 : decode cX5_readHead 156 = .ok (.if_icmp .eq 7, 3) := by decide +kernel
theorem dX5_readHead_159 : decode cX5_readHead 159 = .ok (.iconst 1, 1) := by decide +kernel
theorem dX5_readHead_160 : decode cX5_readHead 160 = .ok (.goto 4, 3) := by decide +kernel
theorem dX5_readHead_163 : decode cX5_readHead 163 = .ok (.iconst 0, 1) := by decide +kernel
theorem dX5_readHead_164 : decode cX5_readHead 164 = .ok (.ireturn, 1) := by decide +kernel
set_option maxRecDepth 20000 in
theorem S_X5_readHead_0 {g : GG} {d : Nat} {F : Int32 → St → Prop} (a1 : Int32) (σ : St) (h : ((a1 ≤ (σ 23 9) → (vp_in (3 * (σ 23 10)) 15 ∧ ((¬ ((sU σ 30 ((3 * (σ 23 10)).toNatClampNeg) (-9)) 30 ((3 * (σ 23 10)).toNatClampNeg)) = (-9) → (ME g d M_X5_digit [vR 23, vI a1, vI 1, vI 9] (sU (sU σ 30 ((3 * (σ 23 10)).toNatClampNeg) (-9)) 23 9 ((σ 23 9) + 1)) (qI (fun r6 σ7 => (vp_in ((3 * (σ 23 10)) + 1) 15 ∧ ((¬ ((sU σ7 30 (((3 * (σ 23 10)) + 1).toNatClampNeg) r6) 30 (((3 * (σ 23 10)) + 1).toNatClampNeg)) = (-9) → (ME g d M_X5_digit [vR 23, vI a1, vI 0, vI 5] (sU σ7 30 (((3 * (σ 23 10)) + 1).toNatClampNeg) r6) (qI (fun r10 σ11 => (vp_in ((3 * (σ 23 10)) + 2) 15 ∧ ((((sU σ11 30 (((3 * (σ 23 10)) + 2).toNatClampNeg) r10) 30 (((3 * (σ 23 10)) + 2).toNatClampNeg)) = (-9) → F 0 (sU (sU σ11 30 (((3 * (σ 23 10)) + 2).toNatClampNeg) r10) 23 10 ((σ11 23 10) + 1))) ∧ (¬ ((sU σ11 30 (((3 * (σ 23 10)) + 2).toNatClampNeg) r10) 30 (((3 * (σ 23 10)) + 2).toNatClampNeg)) = (-9) → F 1 (sU (sU σ11 30 (((3 * (σ 23 10)) + 2).toNatClampNeg) r10) 23 10 ((σ11 23 10) + 1))))))))) ∧ (((sU σ7 30 (((3 * (σ 23 10)) + 1).toNatClampNeg) r6) 30 (((3 * (σ 23 10)) + 1).toNatClampNeg)) = (-9) → F 0 (sU σ7 30 (((3 * (σ 23 10)) + 1).toNatClampNeg) r6)))))))) ∧ (((sU σ 30 ((3 * (σ 23 10)).toNatClampNeg) (-9)) 30 ((3 * (σ 23 10)).toNatClampNeg)) = (-9) → F 0 (sU σ 30 ((3 * (σ 23 10)).toNatClampNeg) (-9)))))) ∧ (¬ a1 ≤ (σ 23 9) → (vp_in (σ 23 9) 240 ∧ ((¬ (σ 26 ((σ 23 9).toNatClampNeg)) = 104 → ((¬ (σ 26 ((σ 23 9).toNatClampNeg)) = 108 → ((¬ (σ 26 ((σ 23 9).toNatClampNeg)) = 115 → (vp_in (3 * (σ 23 10)) 15 ∧ ((¬ ((sU σ 30 ((3 * (σ 23 10)).toNatClampNeg) (-9)) 30 ((3 * (σ 23 10)).toNatClampNeg)) = (-9) → (ME g d M_X5_digit [vR 23, vI a1, vI 1, vI 9] (sU (sU σ 30 ((3 * (σ 23 10)).toNatClampNeg) (-9)) 23 9 ((σ 23 9) + 1)) (qI (fun r18 σ19 => (vp_in ((3 * (σ 23 10)) + 1) 15 ∧ ((¬ ((sU σ19 30 (((3 * (σ 23 10)) + 1).toNatClampNeg) r18) 30 (((3 * (σ 23 10)) + 1).toNatClampNeg)) = (-9) → (ME g d M_X5_digit [vR 23, vI a1, vI 0, vI 5] (sU σ19 30 (((3 * (σ 23 10)) + 1).toNatClampNeg) r18) (qI (fun r22 σ23 => (vp_in ((3 * (σ 23 10)) + 2) 15 ∧ ((((sU σ23 30 (((3 * (σ 23 10)) + 2).toNatClampNeg) r22) 30 (((3 * (σ 23 10)) + 2).toNatClampNeg)) = (-9) → F 0 (sU (sU σ23 30 (((3 * (σ 23 10)) + 2).toNatClampNeg) r22) 23 10 ((σ23 23 10) + 1))) ∧ (¬ ((sU σ23 30 (((3 * (σ 23 10)) + 2).toNatClampNeg) r22) 30 (((3 * (σ 23 10)) + 2).toNatClampNeg)) = (-9) → F 1 (sU (sU σ23 30 (((3 * (σ 23 10)) + 2).toNatClampNeg) r22) 23 10 ((σ23 23 10) + 1))))))))) ∧ (((sU σ19 30 (((3 * (σ 23 10)) + 1).toNatClampNeg) r18) 30 (((3 * (σ 23 10)) + 1).toNatClampNeg)) = (-9) → F 0 (sU σ19 30 (((3 * (σ 23 10)) + 1).toNatClampNeg) r18)))))))) ∧ (((sU σ 30 ((3 * (σ 23 10)).toNatClampNeg) (-9)) 30 ((3 * (σ 23 10)).toNatClampNeg)) = (-9) → F 0 (sU σ 30 ((3 * (σ 23 10)).toNatClampNeg) (-9)))))) ∧ ((σ 26 ((σ 23 9).toNatClampNeg)) = 115 → (vp_in (3 * (σ 23 10)) 15 ∧ ((¬ ((sU σ 30 ((3 * (σ 23 10)).toNatClampNeg) 2) 30 ((3 * (σ 23 10)).toNatClampNeg)) = (-9) → (ME g d M_X5_digit [vR 23, vI a1, vI 1, vI 9] (sU (sU σ 30 ((3 * (σ 23 10)).toNatClampNeg) 2) 23 9 ((σ 23 9) + 1)) (qI (fun r27 σ28 => (vp_in ((3 * (σ 23 10)) + 1) 15 ∧ ((¬ ((sU σ28 30 (((3 * (σ 23 10)) + 1).toNatClampNeg) r27) 30 (((3 * (σ 23 10)) + 1).toNatClampNeg)) = (-9) → (ME g d M_X5_digit [vR 23, vI a1, vI 0, vI 5] (sU σ28 30 (((3 * (σ 23 10)) + 1).toNatClampNeg) r27) (qI (fun r31 σ32 => (vp_in ((3 * (σ 23 10)) + 2) 15 ∧ ((((sU σ32 30 (((3 * (σ 23 10)) + 2).toNatClampNeg) r31) 30 (((3 * (σ 23 10)) + 2).toNatClampNeg)) = (-9) → F 0 (sU (sU σ32 30 (((3 * (σ 23 10)) + 2).toNatClampNeg) r31) 23 10 ((σ32 23 10) + 1))) ∧ (¬ ((sU σ32 30 (((3 * (σ 23 10)) + 2).toNatClampNeg) r31) 30 (((3 * (σ 23 10)) + 2).toNatClampNeg)) = (-9) → F 1 (sU (sU σ32 30 (((3 * (σ 23 10)) + 2).toNatClampNeg) r31) 23 10 ((σ32 23 10) + 1))))))))) ∧ (((sU σ28 30 (((3 * (σ 23 10)) + 1).toNatClampNeg) r27) 30 (((3 * (σ 23 10)) + 1).toNatClampNeg)) = (-9) → F 0 (sU σ28 30 (((3 * (σ 23 10)) + 1).toNatClampNeg) r27)))))))) ∧ (((sU σ 30 ((3 * (σ 23 10)).toNatClampNeg) 2) 30 ((3 * (σ 23 10)).toNatClampNeg)) = (-9) → F 0 (sU σ 30 ((3 * (σ 23 10)).toNatClampNeg) 2))))))) ∧ ((σ 26 ((σ 23 9).toNatClampNeg)) = 108 → (vp_in (3 * (σ 23 10)) 15 ∧ ((¬ ((sU σ 30 ((3 * (σ 23 10)).toNatClampNeg) 1) 30 ((3 * (σ 23 10)).toNatClampNeg)) = (-9) → (ME g d M_X5_digit [vR 23, vI a1, vI 1, vI 9] (sU (sU σ 30 ((3 * (σ 23 10)).toNatClampNeg) 1) 23 9 ((σ 23 9) + 1)) (qI (fun r36 σ37 => (vp_in ((3 * (σ 23 10)) + 1) 15 ∧ ((¬ ((sU σ37 30 (((3 * (σ 23 10)) + 1).toNatClampNeg) r36) 30 (((3 * (σ 23 10)) + 1).toNatClampNeg)) = (-9) → (ME g d M_X5_digit [vR 23, vI a1, vI 0, vI 5] (sU σ37 30 (((3 * (σ 23 10)) + 1).toNatClampNeg) r36) (qI (fun r40 σ41 => (vp_in ((3 * (σ 23 10)) + 2) 15 ∧ ((((sU σ41 30 (((3 * (σ 23 10)) + 2).toNatClampNeg) r40) 30 (((3 * (σ 23 10)) + 2).toNatClampNeg)) = (-9) → F 0 (sU (sU σ41 30 (((3 * (σ 23 10)) + 2).toNatClampNeg) r40) 23 10 ((σ41 23 10) + 1))) ∧ (¬ ((sU σ41 30 (((3 * (σ 23 10)) + 2).toNatClampNeg) r40) 30 (((3 * (σ 23 10)) + 2).toNatClampNeg)) = (-9) → F 1 (sU (sU σ41 30 (((3 * (σ 23 10)) + 2).toNatClampNeg) r40) 23 10 ((σ41 23 10) + 1))))))))) ∧ (((sU σ37 30 (((3 * (σ 23 10)) + 1).toNatClampNeg) r36) 30 (((3 * (σ 23 10)) + 1).toNatClampNeg)) = (-9) → F 0 (sU σ37 30 (((3 * (σ 23 10)) + 1).toNatClampNeg) r36)))))))) ∧ (((sU σ 30 ((3 * (σ 23 10)).toNatClampNeg) 1) 30 ((3 * (σ 23 10)).toNatClampNeg)) = (-9) → F 0 (sU σ 30 ((3 * (σ 23 10)).toNatClampNeg) 1))))))) ∧ ((σ 26 ((σ 23 9).toNatClampNeg)) = 104 → (vp_in (3 * (σ 23 10)) 15 ∧ ((¬ ((sU σ 30 ((3 * (σ 23 10)).toNatClampNeg) 0) 30 ((3 * (σ 23 10)).toNatClampNeg)) = (-9) → (ME g d M_X5_digit [vR 23, vI a1, vI 1, vI 9] (sU (sU σ 30 ((3 * (σ 23 10)).toNatClampNeg) 0) 23 9 ((σ 23 9) + 1)) (qI (fun r45 σ46 => (vp_in ((3 * (σ 23 10)) + 1) 15 ∧ ((¬ ((sU σ46 30 (((3 * (σ 23 10)) + 1).toNatClampNeg) r45) 30 (((3 * (σ 23 10)) + 1).toNatClampNeg)) = (-9) → (ME g d M_X5_digit [vR 23, vI a1, vI 0, vI 5] (sU σ46 30 (((3 * (σ 23 10)) + 1).toNatClampNeg) r45) (qI (fun r49 σ50 => (vp_in ((3 * (σ 23 10)) + 2) 15 ∧ ((((sU σ50 30 (((3 * (σ 23 10)) + 2).toNatClampNeg) r49) 30 (((3 * (σ 23 10)) + 2).toNatClampNeg)) = (-9) → F 0 (sU (sU σ50 30 (((3 * (σ 23 10)) + 2).toNatClampNeg) r49) 23 10 ((σ50 23 10) + 1))) ∧ (¬ ((sU σ50 30 (((3 * (σ 23 10)) + 2).toNatClampNeg) r49) 30 (((3 * (σ 23 10)) + 2).toNatClampNeg)) = (-9) → F 1 (sU (sU σ50 30 (((3 * (σ 23 10)) + 2).toNatClampNeg) r49) 23 10 ((σ50 23 10) + 1))))))))) ∧ (((sU σ46 30 (((3 * (σ 23 10)) + 1).toNatClampNeg) r45) 30 (((3 * (σ 23 10)) + 1).toNatClampNeg)) = (-9) → F 0 (sU σ46 30 (((3 * (σ 23 10)) + 1).toNatClampNeg) r45)))))))) ∧ (((sU σ 30 ((3 * (σ 23 10)).toNatClampNeg) 0) 30 ((3 * (σ 23 10)).toNatClampNeg)) = (-9) → F 0 (sU σ 30 ((3 * (σ 23 10)).toNatClampNeg) 0)))))))))) : VM g (d + 1) M_X5_readHead (qI F) 0 [(0, vR 23), (1, vI a1)] [] σ := by
  refine VE_iconst 3 dX5_readHead_0 (k := ?_)
  refine VE_aload_n 0 dX5_readHead_1 (k := ?_)
  refine VE_getI dX5_readHead_2 fl_X5_83 ?_
  refine VE_imul dX5_readHead_5 ?_
  refine VE_istore_n (ls' := [(2, vI (3 * (σ 23 10))), (0, vR 23), (1, vI a1)]) dX5_readHead_6 ?_
  refine VE_aload_n 1 dX5_readHead_7 (k := ?_)
  refine VE_getI dX5_readHead_8 fl_X5_62 ?_
  refine VE_iload_n 2 dX5_readHead_11 (k := ?_)
  refine VE_icmp_ge 27 dX5_readHead_12 (fun c1 => ?_) (fun c1 => ?_)
  · refine VE_iconst 0 dX5_readHead_27 (k := ?_)
    refine VE_istore_n (ls' := [(3, vI 0), (2, vI (3 * (σ 23 10))), (0, vR 23), (1, vI a1)]) dX5_readHead_28 ?_
    refine VE_aload_n 2 dX5_readHead_29 (k := ?_)
    refine VE_getR 30 dX5_readHead_30 fl_X5_28 ?_
    refine VE_iload_n 1 dX5_readHead_33 (k := ?_)
    refine VE_iload_n 0 dX5_readHead_34 (k := ?_)
    refine VE_bipush 104 dX5_readHead_35 (k := ?_)
    refine VE_icmp_ne 44 dX5_readHead_37 (fun _ => ?_) (fun c2 => absurd c2 (by decide))
    refine VE_iload_n 0 dX5_readHead_44 (k := ?_)
    refine VE_bipush 108 dX5_readHead_45 (k := ?_)
    refine VE_icmp_ne 54 dX5_readHead_47 (fun _ => ?_) (fun c3 => absurd c3 (by decide))
    refine VE_iload_n 0 dX5_readHead_54 (k := ?_)
    refine VE_bipush 115 dX5_readHead_55 (k := ?_)
    refine VE_icmp_ne 64 dX5_readHead_57 (fun _ => ?_) (fun c4 => absurd c4 (by decide))
    refine VE_bipush (-9) dX5_readHead_64 (k := ?_)
    refine VE_iast dX5_readHead_66 (h.1 c1).1 ?_
    refine VE_aload_n 2 dX5_readHead_67 (k := ?_)
    refine VE_getR 30 dX5_readHead_68 fl_X5_28 ?_
    refine VE_iload_n 1 dX5_readHead_71 (k := ?_)
    refine VE_iald dX5_readHead_72 (h.1 c1).1 ?_
    refine VE_bipush (-9) dX5_readHead_73 (k := ?_)
    refine VE_icmp_ne 80 dX5_readHead_75 (fun c5 => ?_) (fun c5 => ?_)
    · refine VE_aload_n 2 dX5_readHead_80 (k := ?_)
      refine VE_dup dX5_readHead_81 (k := ?_)
      refine VE_getI dX5_readHead_82 fl_X5_62 ?_
      refine VE_iconst 1 dX5_readHead_85 (k := ?_)
      refine VE_iadd dX5_readHead_86 ?_
      refine VE_put dX5_readHead_87 fl_X5_62 ?_
      refine VE_aload_n 2 dX5_readHead_90 (k := ?_)
      refine VE_getR 30 dX5_readHead_91 fl_X5_28 ?_
      refine VE_iload_n 1 dX5_readHead_94 (k := ?_)
      refine VE_iconst 1 dX5_readHead_95 (k := ?_)
      refine VE_iadd dX5_readHead_96 ?_
      refine VE_aload_n 2 dX5_readHead_97 (k := ?_)
      refine VE_iload_n 3 dX5_readHead_98 (k := ?_)
      refine VE_iconst 1 dX5_readHead_99 (k := ?_)
      refine VE_bipush 9 dX5_readHead_100 (k := ?_)
      refine VE_cVi [vI a1, vI 1, vI 9] dX5_readHead_102 ml_X5_96 ((h.1 c1).2.1 c5) (fun r6 σ7 h8 => ?_) (rok_D d)
      refine VE_iast dX5_readHead_105 h8.1 ?_
      refine VE_aload_n 2 dX5_readHead_106 (k := ?_)
      refine VE_getR 30 dX5_readHead_107 fl_X5_28 ?_
      refine VE_iload_n 1 dX5_readHead_110 (k := ?_)
      refine VE_iconst 1 dX5_readHead_111 (k := ?_)
      refine VE_iadd dX5_readHead_112 ?_
      refine VE_iald dX5_readHead_113 h8.1 ?_
      refine VE_bipush (-9) dX5_readHead_114 (k := ?_)
      refine VE_icmp_ne 121 dX5_readHead_116 (fun c9 => ?_) (fun c9 => ?_)
      · refine VE_aload_n 2 dX5_readHead_121 (k := ?_)
        refine VE_getR 30 dX5_readHead_122 fl_X5_28 ?_
        refine VE_iload_n 1 dX5_readHead_125 (k := ?_)
        refine VE_iconst 2 dX5_readHead_126 (k := ?_)
        refine VE_iadd dX5_readHead_127 ?_
        refine VE_aload_n 2 dX5_readHead_128 (k := ?_)
        refine VE_iload_n 3 dX5_readHead_129 (k := ?_)
        refine VE_iconst 0 dX5_readHead_130 (k := ?_)
        refine VE_iconst 5 dX5_readHead_131 (k := ?_)
        refine VE_cVi [vI a1, vI 0, vI 5] dX5_readHead_132 ml_X5_96 (h8.2.1 c9) (fun r10 σ11 h12 => ?_) (rok_D d)
        refine VE_iast dX5_readHead_135 h12.1 ?_
        refine VE_aload_n 2 dX5_readHead_136 (k := ?_)
        refine VE_dup dX5_readHead_137 (k := ?_)
        refine VE_getI dX5_readHead_138 fl_X5_83 ?_
        refine VE_iconst 1 dX5_readHead_141 (k := ?_)
        refine VE_iadd dX5_readHead_142 ?_
        refine VE_put dX5_readHead_143 fl_X5_83 ?_
        refine VE_aload_n 2 dX5_readHead_146 (k := ?_)
        refine VE_getR 30 dX5_readHead_147 fl_X5_28 ?_
        refine VE_iload_n 1 dX5_readHead_150 (k := ?_)
        refine VE_iconst 2 dX5_readHead_151 (k := ?_)
        refine VE_iadd dX5_readHead_152 ?_
        refine VE_iald dX5_readHead_153 h12.1 ?_
        refine VE_bipush (-9) dX5_readHead_154 (k := ?_)
        refine VE_icmp_eq 163 dX5_readHead_156 (fun c13 => ?_) (fun c13 => ?_)
        · refine VE_iconst 0 dX5_readHead_163 (k := ?_)
          exact VM_zret dX5_readHead_164 (h12.2.1 c13) (by decide)
        · refine VE_iconst 1 dX5_readHead_159 (k := ?_)
          refine VE_goto 164 dX5_readHead_160 ?_
          exact VM_zret dX5_readHead_164 (h12.2.2 c13) (by decide)
      · refine VE_iconst 0 dX5_readHead_119 (k := ?_)
        exact VM_zret dX5_readHead_120 (h8.2.2 c9) (by decide)
    · refine VE_iconst 0 dX5_readHead_78 (k := ?_)
      exact VM_zret dX5_readHead_79 ((h.1 c1).2.2 c5) (by decide)
  · refine VE_aload_n 1 dX5_readHead_15 (k := ?_)
    refine VE_getR 26 dX5_readHead_16 fl_X5_16 ?_
    refine VE_aload_n 1 dX5_readHead_19 (k := ?_)
    refine VE_getI dX5_readHead_20 fl_X5_62 ?_
    refine VE_iald dX5_readHead_23 (h.2 c1).1 ?_
    refine VE_goto 28 dX5_readHead_24 ?_
    refine VE_istore_n (ls' := [(3, vI (σ 26 ((σ 23 9).toNatClampNeg))), (2, vI (3 * (σ 23 10))), (0, vR 23), (1, vI a1)]) dX5_readHead_28 ?_
    refine VE_aload_n 2 dX5_readHead_29 (k := ?_)
    refine VE_getR 30 dX5_readHead_30 fl_X5_28 ?_
    refine VE_iload_n 1 dX5_readHead_33 (k := ?_)
    refine VE_iload_n 0 dX5_readHead_34 (k := ?_)
    refine VE_bipush 104 dX5_readHead_35 (k := ?_)
    refine VE_icmp_ne 44 dX5_readHead_37 (fun c14 => ?_) (fun c14 => ?_)
    · refine VE_iload_n 0 dX5_readHead_44 (k := ?_)
      refine VE_bipush 108 dX5_readHead_45 (k := ?_)
      refine VE_icmp_ne 54 dX5_readHead_47 (fun c15 => ?_) (fun c15 => ?_)
      · refine VE_iload_n 0 dX5_readHead_54 (k := ?_)
        refine VE_bipush 115 dX5_readHead_55 (k := ?_)
        refine VE_icmp_ne 64 dX5_readHead_57 (fun c16 => ?_) (fun c16 => ?_)
        · refine VE_bipush (-9) dX5_readHead_64 (k := ?_)
          refine VE_iast dX5_readHead_66 ((((h.2 c1).2.1 c14).1 c15).1 c16).1 ?_
          refine VE_aload_n 2 dX5_readHead_67 (k := ?_)
          refine VE_getR 30 dX5_readHead_68 fl_X5_28 ?_
          refine VE_iload_n 1 dX5_readHead_71 (k := ?_)
          refine VE_iald dX5_readHead_72 ((((h.2 c1).2.1 c14).1 c15).1 c16).1 ?_
          refine VE_bipush (-9) dX5_readHead_73 (k := ?_)
          refine VE_icmp_ne 80 dX5_readHead_75 (fun c17 => ?_) (fun c17 => ?_)
          · refine VE_aload_n 2 dX5_readHead_80 (k := ?_)
            refine VE_dup dX5_readHead_81 (k := ?_)
            refine VE_getI dX5_readHead_82 fl_X5_62 ?_
            refine VE_iconst 1 dX5_readHead_85 (k := ?_)
            refine VE_iadd dX5_readHead_86 ?_
            refine VE_put dX5_readHead_87 fl_X5_62 ?_
            refine VE_aload_n 2 dX5_readHead_90 (k := ?_)
            refine VE_getR 30 dX5_readHead_91 fl_X5_28 ?_
            refine VE_iload_n 1 dX5_readHead_94 (k := ?_)
            refine VE_iconst 1 dX5_readHead_95 (k := ?_)
            refine VE_iadd dX5_readHead_96 ?_
            refine VE_aload_n 2 dX5_readHead_97 (k := ?_)
            refine VE_iload_n 3 dX5_readHead_98 (k := ?_)
            refine VE_iconst 1 dX5_readHead_99 (k := ?_)
            refine VE_bipush 9 dX5_readHead_100 (k := ?_)
            refine VE_cVi [vI a1, vI 1, vI 9] dX5_readHead_102 ml_X5_96 (((((h.2 c1).2.1 c14).1 c15).1 c16).2.1 c17) (fun r18 σ19 h20 => ?_) (rok_D d)
            refine VE_iast dX5_readHead_105 h20.1 ?_
            refine VE_aload_n 2 dX5_readHead_106 (k := ?_)
            refine VE_getR 30 dX5_readHead_107 fl_X5_28 ?_
            refine VE_iload_n 1 dX5_readHead_110 (k := ?_)
            refine VE_iconst 1 dX5_readHead_111 (k := ?_)
            refine VE_iadd dX5_readHead_112 ?_
            refine VE_iald dX5_readHead_113 h20.1 ?_
            refine VE_bipush (-9) dX5_readHead_114 (k := ?_)
            refine VE_icmp_ne 121 dX5_readHead_116 (fun c21 => ?_) (fun c21 => ?_)
            · refine VE_aload_n 2 dX5_readHead_121 (k := ?_)
              refine VE_getR 30 dX5_readHead_122 fl_X5_28 ?_
              refine VE_iload_n 1 dX5_readHead_125 (k := ?_)
              refine VE_iconst 2 dX5_readHead_126 (k := ?_)
              refine VE_iadd dX5_readHead_127 ?_
              refine VE_aload_n 2 dX5_readHead_128 (k := ?_)
              refine VE_iload_n 3 dX5_readHead_129 (k := ?_)
              refine VE_iconst 0 dX5_readHead_130 (k := ?_)
              refine VE_iconst 5 dX5_readHead_131 (k := ?_)
              refine VE_cVi [vI a1, vI 0, vI 5] dX5_readHead_132 ml_X5_96 (h20.2.1 c21) (fun r22 σ23 h24 => ?_) (rok_D d)
              refine VE_iast dX5_readHead_135 h24.1 ?_
              refine VE_aload_n 2 dX5_readHead_136 (k := ?_)
              refine VE_dup dX5_readHead_137 (k := ?_)
              refine VE_getI dX5_readHead_138 fl_X5_83 ?_
              refine VE_iconst 1 dX5_readHead_141 (k := ?_)
              refine VE_iadd dX5_readHead_142 ?_
              refine VE_put dX5_readHead_143 fl_X5_83 ?_
              refine VE_aload_n 2 dX5_readHead_146 (k := ?_)
              refine VE_getR 30 dX5_readHead_147 fl_X5_28 ?_
              refine VE_iload_n 1 dX5_readHead_150 (k := ?_)
              refine VE_iconst 2 dX5_readHead_151 (k := ?_)
              refine VE_iadd dX5_readHead_152 ?_
              refine VE_iald dX5_readHead_153 h24.1 ?_
              refine VE_bipush (-9) dX5_readHead_154 (k := ?_)
              refine VE_icmp_eq 163 dX5_readHead_156 (fun c25 => ?_) (fun c25 => ?_)
              · refine VE_iconst 0 dX5_readHead_163 (k := ?_)
                exact VM_zret dX5_readHead_164 (h24.2.1 c25) (by decide)
              · refine VE_iconst 1 dX5_readHead_159 (k := ?_)
                refine VE_goto 164 dX5_readHead_160 ?_
                exact VM_zret dX5_readHead_164 (h24.2.2 c25) (by decide)
            · refine VE_iconst 0 dX5_readHead_119 (k := ?_)
              exact VM_zret dX5_readHead_120 (h20.2.2 c21) (by decide)
          · refine VE_iconst 0 dX5_readHead_78 (k := ?_)
            exact VM_zret dX5_readHead_79 (((((h.2 c1).2.1 c14).1 c15).1 c16).2.2 c17) (by decide)
        · refine VE_iconst 2 dX5_readHead_60 (k := ?_)
          refine VE_goto 66 dX5_readHead_61 ?_
          refine VE_iast dX5_readHead_66 ((((h.2 c1).2.1 c14).1 c15).2 c16).1 ?_
          refine VE_aload_n 2 dX5_readHead_67 (k := ?_)
          refine VE_getR 30 dX5_readHead_68 fl_X5_28 ?_
          refine VE_iload_n 1 dX5_readHead_71 (k := ?_)
          refine VE_iald dX5_readHead_72 ((((h.2 c1).2.1 c14).1 c15).2 c16).1 ?_
          refine VE_bipush (-9) dX5_readHead_73 (k := ?_)
          refine VE_icmp_ne 80 dX5_readHead_75 (fun c26 => ?_) (fun c26 => ?_)
          · refine VE_aload_n 2 dX5_readHead_80 (k := ?_)
            refine VE_dup dX5_readHead_81 (k := ?_)
            refine VE_getI dX5_readHead_82 fl_X5_62 ?_
            refine VE_iconst 1 dX5_readHead_85 (k := ?_)
            refine VE_iadd dX5_readHead_86 ?_
            refine VE_put dX5_readHead_87 fl_X5_62 ?_
            refine VE_aload_n 2 dX5_readHead_90 (k := ?_)
            refine VE_getR 30 dX5_readHead_91 fl_X5_28 ?_
            refine VE_iload_n 1 dX5_readHead_94 (k := ?_)
            refine VE_iconst 1 dX5_readHead_95 (k := ?_)
            refine VE_iadd dX5_readHead_96 ?_
            refine VE_aload_n 2 dX5_readHead_97 (k := ?_)
            refine VE_iload_n 3 dX5_readHead_98 (k := ?_)
            refine VE_iconst 1 dX5_readHead_99 (k := ?_)
            refine VE_bipush 9 dX5_readHead_100 (k := ?_)
            refine VE_cVi [vI a1, vI 1, vI 9] dX5_readHead_102 ml_X5_96 (((((h.2 c1).2.1 c14).1 c15).2 c16).2.1 c26) (fun r27 σ28 h29 => ?_) (rok_D d)
            refine VE_iast dX5_readHead_105 h29.1 ?_
            refine VE_aload_n 2 dX5_readHead_106 (k := ?_)
            refine VE_getR 30 dX5_readHead_107 fl_X5_28 ?_
            refine VE_iload_n 1 dX5_readHead_110 (k := ?_)
            refine VE_iconst 1 dX5_readHead_111 (k := ?_)
            refine VE_iadd dX5_readHead_112 ?_
            refine VE_iald dX5_readHead_113 h29.1 ?_
            refine VE_bipush (-9) dX5_readHead_114 (k := ?_)
            refine VE_icmp_ne 121 dX5_readHead_116 (fun c30 => ?_) (fun c30 => ?_)
            · refine VE_aload_n 2 dX5_readHead_121 (k := ?_)
              refine VE_getR 30 dX5_readHead_122 fl_X5_28 ?_
              refine VE_iload_n 1 dX5_readHead_125 (k := ?_)
              refine VE_iconst 2 dX5_readHead_126 (k := ?_)
              refine VE_iadd dX5_readHead_127 ?_
              refine VE_aload_n 2 dX5_readHead_128 (k := ?_)
              refine VE_iload_n 3 dX5_readHead_129 (k := ?_)
              refine VE_iconst 0 dX5_readHead_130 (k := ?_)
              refine VE_iconst 5 dX5_readHead_131 (k := ?_)
              refine VE_cVi [vI a1, vI 0, vI 5] dX5_readHead_132 ml_X5_96 (h29.2.1 c30) (fun r31 σ32 h33 => ?_) (rok_D d)
              refine VE_iast dX5_readHead_135 h33.1 ?_
              refine VE_aload_n 2 dX5_readHead_136 (k := ?_)
              refine VE_dup dX5_readHead_137 (k := ?_)
              refine VE_getI dX5_readHead_138 fl_X5_83 ?_
              refine VE_iconst 1 dX5_readHead_141 (k := ?_)
              refine VE_iadd dX5_readHead_142 ?_
              refine VE_put dX5_readHead_143 fl_X5_83 ?_
              refine VE_aload_n 2 dX5_readHead_146 (k := ?_)
              refine VE_getR 30 dX5_readHead_147 fl_X5_28 ?_
              refine VE_iload_n 1 dX5_readHead_150 (k := ?_)
              refine VE_iconst 2 dX5_readHead_151 (k := ?_)
              refine VE_iadd dX5_readHead_152 ?_
              refine VE_iald dX5_readHead_153 h33.1 ?_
              refine VE_bipush (-9) dX5_readHead_154 (k := ?_)
              refine VE_icmp_eq 163 dX5_readHead_156 (fun c34 => ?_) (fun c34 => ?_)
              · refine VE_iconst 0 dX5_readHead_163 (k := ?_)
                exact VM_zret dX5_readHead_164 (h33.2.1 c34) (by decide)
              · refine VE_iconst 1 dX5_readHead_159 (k := ?_)
                refine VE_goto 164 dX5_readHead_160 ?_
                exact VM_zret dX5_readHead_164 (h33.2.2 c34) (by decide)
            · refine VE_iconst 0 dX5_readHead_119 (k := ?_)
              exact VM_zret dX5_readHead_120 (h29.2.2 c30) (by decide)
          · refine VE_iconst 0 dX5_readHead_78 (k := ?_)
            exact VM_zret dX5_readHead_79 (((((h.2 c1).2.1 c14).1 c15).2 c16).2.2 c26) (by decide)
      · refine VE_iconst 1 dX5_readHead_50 (k := ?_)
        refine VE_goto 66 dX5_readHead_51 ?_
        refine VE_iast dX5_readHead_66 (((h.2 c1).2.1 c14).2 c15).1 ?_
        refine VE_aload_n 2 dX5_readHead_67 (k := ?_)
        refine VE_getR 30 dX5_readHead_68 fl_X5_28 ?_
        refine VE_iload_n 1 dX5_readHead_71 (k := ?_)
        refine VE_iald dX5_readHead_72 (((h.2 c1).2.1 c14).2 c15).1 ?_
        refine VE_bipush (-9) dX5_readHead_73 (k := ?_)
        refine VE_icmp_ne 80 dX5_readHead_75 (fun c35 => ?_) (fun c35 => ?_)
        · refine VE_aload_n 2 dX5_readHead_80 (k := ?_)
          refine VE_dup dX5_readHead_81 (k := ?_)
          refine VE_getI dX5_readHead_82 fl_X5_62 ?_
          refine VE_iconst 1 dX5_readHead_85 (k := ?_)
          refine VE_iadd dX5_readHead_86 ?_
          refine VE_put dX5_readHead_87 fl_X5_62 ?_
          refine VE_aload_n 2 dX5_readHead_90 (k := ?_)
          refine VE_getR 30 dX5_readHead_91 fl_X5_28 ?_
          refine VE_iload_n 1 dX5_readHead_94 (k := ?_)
          refine VE_iconst 1 dX5_readHead_95 (k := ?_)
          refine VE_iadd dX5_readHead_96 ?_
          refine VE_aload_n 2 dX5_readHead_97 (k := ?_)
          refine VE_iload_n 3 dX5_readHead_98 (k := ?_)
          refine VE_iconst 1 dX5_readHead_99 (k := ?_)
          refine VE_bipush 9 dX5_readHead_100 (k := ?_)
          refine VE_cVi [vI a1, vI 1, vI 9] dX5_readHead_102 ml_X5_96 ((((h.2 c1).2.1 c14).2 c15).2.1 c35) (fun r36 σ37 h38 => ?_) (rok_D d)
          refine VE_iast dX5_readHead_105 h38.1 ?_
          refine VE_aload_n 2 dX5_readHead_106 (k := ?_)
          refine VE_getR 30 dX5_readHead_107 fl_X5_28 ?_
          refine VE_iload_n 1 dX5_readHead_110 (k := ?_)
          refine VE_iconst 1 dX5_readHead_111 (k := ?_)
          refine VE_iadd dX5_readHead_112 ?_
          refine VE_iald dX5_readHead_113 h38.1 ?_
          refine VE_bipush (-9) dX5_readHead_114 (k := ?_)
          refine VE_icmp_ne 121 dX5_readHead_116 (fun c39 => ?_) (fun c39 => ?_)
          · refine VE_aload_n 2 dX5_readHead_121 (k := ?_)
            refine VE_getR 30 dX5_readHead_122 fl_X5_28 ?_
            refine VE_iload_n 1 dX5_readHead_125 (k := ?_)
            refine VE_iconst 2 dX5_readHead_126 (k := ?_)
            refine VE_iadd dX5_readHead_127 ?_
            refine VE_aload_n 2 dX5_readHead_128 (k := ?_)
            refine VE_iload_n 3 dX5_readHead_129 (k := ?_)
            refine VE_iconst 0 dX5_readHead_130 (k := ?_)
            refine VE_iconst 5 dX5_readHead_131 (k := ?_)
            refine VE_cVi [vI a1, vI 0, vI 5] dX5_readHead_132 ml_X5_96 (h38.2.1 c39) (fun r40 σ41 h42 => ?_) (rok_D d)
            refine VE_iast dX5_readHead_135 h42.1 ?_
            refine VE_aload_n 2 dX5_readHead_136 (k := ?_)
            refine VE_dup dX5_readHead_137 (k := ?_)
            refine VE_getI dX5_readHead_138 fl_X5_83 ?_
            refine VE_iconst 1 dX5_readHead_141 (k := ?_)
            refine VE_iadd dX5_readHead_142 ?_
            refine VE_put dX5_readHead_143 fl_X5_83 ?_
            refine VE_aload_n 2 dX5_readHead_146 (k := ?_)
            refine VE_getR 30 dX5_readHead_147 fl_X5_28 ?_
            refine VE_iload_n 1 dX5_readHead_150 (k := ?_)
            refine VE_iconst 2 dX5_readHead_151 (k := ?_)
            refine VE_iadd dX5_readHead_152 ?_
            refine VE_iald dX5_readHead_153 h42.1 ?_
            refine VE_bipush (-9) dX5_readHead_154 (k := ?_)
            refine VE_icmp_eq 163 dX5_readHead_156 (fun c43 => ?_) (fun c43 => ?_)
            · refine VE_iconst 0 dX5_readHead_163 (k := ?_)
              exact VM_zret dX5_readHead_164 (h42.2.1 c43) (by decide)
            · refine VE_iconst 1 dX5_readHead_159 (k := ?_)
              refine VE_goto 164 dX5_readHead_160 ?_
              exact VM_zret dX5_readHead_164 (h42.2.2 c43) (by decide)
          · refine VE_iconst 0 dX5_readHead_119 (k := ?_)
            exact VM_zret dX5_readHead_120 (h38.2.2 c39) (by decide)
        · refine VE_iconst 0 dX5_readHead_78 (k := ?_)
          exact VM_zret dX5_readHead_79 ((((h.2 c1).2.1 c14).2 c15).2.2 c35) (by decide)
    · refine VE_iconst 0 dX5_readHead_40 (k := ?_)
      refine VE_goto 66 dX5_readHead_41 ?_
      refine VE_iast dX5_readHead_66 ((h.2 c1).2.2 c14).1 ?_
      refine VE_aload_n 2 dX5_readHead_67 (k := ?_)
      refine VE_getR 30 dX5_readHead_68 fl_X5_28 ?_
      refine VE_iload_n 1 dX5_readHead_71 (k := ?_)
      refine VE_iald dX5_readHead_72 ((h.2 c1).2.2 c14).1 ?_
      refine VE_bipush (-9) dX5_readHead_73 (k := ?_)
      refine VE_icmp_ne 80 dX5_readHead_75 (fun c44 => ?_) (fun c44 => ?_)
      · refine VE_aload_n 2 dX5_readHead_80 (k := ?_)
        refine VE_dup dX5_readHead_81 (k := ?_)
        refine VE_getI dX5_readHead_82 fl_X5_62 ?_
        refine VE_iconst 1 dX5_readHead_85 (k := ?_)
        refine VE_iadd dX5_readHead_86 ?_
        refine VE_put dX5_readHead_87 fl_X5_62 ?_
        refine VE_aload_n 2 dX5_readHead_90 (k := ?_)
        refine VE_getR 30 dX5_readHead_91 fl_X5_28 ?_
        refine VE_iload_n 1 dX5_readHead_94 (k := ?_)
        refine VE_iconst 1 dX5_readHead_95 (k := ?_)
        refine VE_iadd dX5_readHead_96 ?_
        refine VE_aload_n 2 dX5_readHead_97 (k := ?_)
        refine VE_iload_n 3 dX5_readHead_98 (k := ?_)
        refine VE_iconst 1 dX5_readHead_99 (k := ?_)
        refine VE_bipush 9 dX5_readHead_100 (k := ?_)
        refine VE_cVi [vI a1, vI 1, vI 9] dX5_readHead_102 ml_X5_96 (((h.2 c1).2.2 c14).2.1 c44) (fun r45 σ46 h47 => ?_) (rok_D d)
        refine VE_iast dX5_readHead_105 h47.1 ?_
        refine VE_aload_n 2 dX5_readHead_106 (k := ?_)
        refine VE_getR 30 dX5_readHead_107 fl_X5_28 ?_
        refine VE_iload_n 1 dX5_readHead_110 (k := ?_)
        refine VE_iconst 1 dX5_readHead_111 (k := ?_)
        refine VE_iadd dX5_readHead_112 ?_
        refine VE_iald dX5_readHead_113 h47.1 ?_
        refine VE_bipush (-9) dX5_readHead_114 (k := ?_)
        refine VE_icmp_ne 121 dX5_readHead_116 (fun c48 => ?_) (fun c48 => ?_)
        · refine VE_aload_n 2 dX5_readHead_121 (k := ?_)
          refine VE_getR 30 dX5_readHead_122 fl_X5_28 ?_
          refine VE_iload_n 1 dX5_readHead_125 (k := ?_)
          refine VE_iconst 2 dX5_readHead_126 (k := ?_)
          refine VE_iadd dX5_readHead_127 ?_
          refine VE_aload_n 2 dX5_readHead_128 (k := ?_)
          refine VE_iload_n 3 dX5_readHead_129 (k := ?_)
          refine VE_iconst 0 dX5_readHead_130 (k := ?_)
          refine VE_iconst 5 dX5_readHead_131 (k := ?_)
          refine VE_cVi [vI a1, vI 0, vI 5] dX5_readHead_132 ml_X5_96 (h47.2.1 c48) (fun r49 σ50 h51 => ?_) (rok_D d)
          refine VE_iast dX5_readHead_135 h51.1 ?_
          refine VE_aload_n 2 dX5_readHead_136 (k := ?_)
          refine VE_dup dX5_readHead_137 (k := ?_)
          refine VE_getI dX5_readHead_138 fl_X5_83 ?_
          refine VE_iconst 1 dX5_readHead_141 (k := ?_)
          refine VE_iadd dX5_readHead_142 ?_
          refine VE_put dX5_readHead_143 fl_X5_83 ?_
          refine VE_aload_n 2 dX5_readHead_146 (k := ?_)
          refine VE_getR 30 dX5_readHead_147 fl_X5_28 ?_
          refine VE_iload_n 1 dX5_readHead_150 (k := ?_)
          refine VE_iconst 2 dX5_readHead_151 (k := ?_)
          refine VE_iadd dX5_readHead_152 ?_
          refine VE_iald dX5_readHead_153 h51.1 ?_
          refine VE_bipush (-9) dX5_readHead_154 (k := ?_)
          refine VE_icmp_eq 163 dX5_readHead_156 (fun c52 => ?_) (fun c52 => ?_)
          · refine VE_iconst 0 dX5_readHead_163 (k := ?_)
            exact VM_zret dX5_readHead_164 (h51.2.1 c52) (by decide)
          · refine VE_iconst 1 dX5_readHead_159 (k := ?_)
            refine VE_goto 164 dX5_readHead_160 ?_
            exact VM_zret dX5_readHead_164 (h51.2.2 c52) (by decide)
        · refine VE_iconst 0 dX5_readHead_119 (k := ?_)
          exact VM_zret dX5_readHead_120 (h47.2.2 c48) (by decide)
      · refine VE_iconst 0 dX5_readHead_78 (k := ?_)
        exact VM_zret dX5_readHead_79 (((h.2 c1).2.2 c14).2.2 c44) (by decide)
theorem dX5_lasts_0 : decode cX5_lasts 0 = .ok (.aload_n 0, 1) := by decide +kernel
theorem dX5_lasts_1 : decode cX5_lasts 1 = .ok (.getfield 22, 3) := by decide +kernel
theorem dX5_lasts_4 : decode cX5_lasts 4 = .ok (.iload_n 1, 1) := by decide +kernel
theorem dX5_lasts_5 : decode cX5_lasts 5 = .ok (.iaload, 1) := by decide +kernel
theorem dX5_lasts_6 : decode cX5_lasts 6 = .ok (.iconst 1, 1) := by decide +kernel
theorem dX5_lasts_7 : decode cX5_lasts 7 = .ok (.iadd, 1) := by decide +kernel
theorem dX5_lasts_8 : decode cX5_lasts 8 = .ok (.istore_n 2, 1) := by decide +kernel
theorem dX5_lasts_9 : decode cX5_lasts 9 = .ok (.aload_n 0, 1) := by decide +kernel
theorem dX5_lasts_10 : decode cX5_lasts 10 = .ok (.getfield 19, 3) := by decide +kernel
theorem dX5_lasts_13 : decode cX5_lasts 13 = .ok (.iload_n 1, 1) := by decide +kernel
theorem dX5_lasts_14 : decode cX5_lasts 14 = .ok (.iaload, 1) := by decide +kernel
theorem dX5_lasts_15 : decode cX5_lasts 15 = .ok (.ifCond .ne 12, 3) := by decide +kernel
theorem dX5_lasts_18 : decode cX5_lasts 18 = .ok (.aload_n 0, 1) := by decide +kernel
theorem dX5_lasts_19 : decode cX5_lasts 19 = .ok (.getfield 22, 3) := by decide +kernel
theorem dX5_lasts_22 : decode cX5_lasts 22 = .ok (.iload_n 1, 1) := by decide +kernel
theorem dX5_lasts_23 : decode cX5_lasts 23 = .ok (.iaload, 1) := by decide +kernel
theorem dX5_lasts_24 : decode cX5_lasts 24 = .ok (.goto 20, 3) := by decide +kernel
theorem dX5_lasts_27 : decode cX5_lasts 27 = .ok (.aload_n 0, 1) := by decide +kernel
theorem dX5_lasts_28 : decode cX5_lasts 28 = .ok (.getfield 19, 3) := by decide +kernel
theorem dX5_lasts_31 : decode cX5_lasts 31 = .ok (.iload_n 1, 1) := by decide +kernel
theorem dX5_lasts_32 : decode cX5_lasts 32 = .ok (.iaload, 1) := by decide +kernel
theorem dX5_lasts_33 : decode cX5_lasts 33 = .ok (.iconst 1, 1) := by decide +kernel
theorem dX5_lasts_34 : decode cX5_lasts 34 = .ok (.if_icmp .ne 7, 3) := by decide +kernel
theorem dX5_lasts_37 : decode cX5_lasts 37 = .ok (.iload_n 2, 1) := by decide +kernel
theorem dX5_lasts_38 : decode cX5_lasts 38 = .ok (.goto 6, 3) := by decide +kernel
theorem dX5_lasts_41 : decode cX5_lasts 41 = .ok (.iconst 2, 1) := by decide +kernel
theorem dX5_lasts_42 : decode cX5_lasts 42 = .ok (.iload_n 2, 1) := by decide +kernel
theorem dX5_lasts_43 : decode cX5_lasts 43 = .ok (.imul, 1) := by decide +kernel
theorem dX5_lasts_44 : decode cX5_lasts 44 = .ok (.ireturn, 1) := by decide +kernel
set_option maxRecDepth 20000 in
theorem S_X5_lasts_0 {g : GG} {d : Nat} {F : Int32 → St → Prop} (a1 : Int32) (σ : St) (h : (vp_in a1 5 ∧ ((¬ (σ 27 a1.toNatClampNeg) = 0 → ((¬ (σ 27 a1.toNatClampNeg) = 1 → F (2 * ((σ 28 a1.toNatClampNeg) + 1)) σ) ∧ ((σ 27 a1.toNatClampNeg) = 1 → F ((σ 28 a1.toNatClampNeg) + 1) σ))) ∧ ((σ 27 a1.toNatClampNeg) = 0 → F (σ 28 a1.toNatClampNeg) σ)))) : VM g d M_X5_lasts (qI F) 0 [(0, vR 23), (1, vI a1)] [] σ := by
  refine VE_aload_n 0 dX5_lasts_0 (k := ?_)
  refine VE_getR 28 dX5_lasts_1 fl_X5_22 ?_
  refine VE_iload_n 1 dX5_lasts_4 (k := ?_)
  refine VE_iald dX5_lasts_5 h.1 ?_
  refine VE_iconst 1 dX5_lasts_6 (k := ?_)
  refine VE_iadd dX5_lasts_7 ?_
  refine VE_istore_n (ls' := [(2, vI ((σ 28 a1.toNatClampNeg) + 1)), (0, vR 23), (1, vI a1)]) dX5_lasts_8 ?_
  refine VE_aload_n 1 dX5_lasts_9 (k := ?_)
  refine VE_getR 27 dX5_lasts_10 fl_X5_19 ?_
  refine VE_iload_n 2 dX5_lasts_13 (k := ?_)
  refine VE_iald dX5_lasts_14 h.1 ?_
  refine VE_if_ne 27 dX5_lasts_15 (fun c1 => ?_) (fun c1 => ?_)
  · refine VE_aload_n 1 dX5_lasts_27 (k := ?_)
    refine VE_getR 27 dX5_lasts_28 fl_X5_19 ?_
    refine VE_iload_n 2 dX5_lasts_31 (k := ?_)
    refine VE_iald dX5_lasts_32 h.1 ?_
    refine VE_iconst 1 dX5_lasts_33 (k := ?_)
    refine VE_icmp_ne 41 dX5_lasts_34 (fun c2 => ?_) (fun c2 => ?_)
    · refine VE_iconst 2 dX5_lasts_41 (k := ?_)
      refine VE_iload_n 0 dX5_lasts_42 (k := ?_)
      refine VE_imul dX5_lasts_43 ?_
      exact VM_iret dX5_lasts_44 ((h.2.1 c1).1 c2)
    · refine VE_iload_n 0 dX5_lasts_37 (k := ?_)
      refine VE_goto 44 dX5_lasts_38 ?_
      exact VM_iret dX5_lasts_44 ((h.2.1 c1).2 c2)
  · refine VE_aload_n 1 dX5_lasts_18 (k := ?_)
    refine VE_getR 28 dX5_lasts_19 fl_X5_22 ?_
    refine VE_iload_n 2 dX5_lasts_22 (k := ?_)
    refine VE_iald dX5_lasts_23 h.1 ?_
    refine VE_goto 44 dX5_lasts_24 ?_
    exact VM_iret dX5_lasts_44 (h.2.2 c1)
theorem dX5_ofHead_0 : decode cX5_ofHead 0 = .ok (.aload_n 0, 1) := by decide +kernel
theorem dX5_ofHead_1 : decode cX5_ofHead 1 = .ok (.iload_n 1, 1) := by decide +kernel
theorem dX5_ofHead_2 : decode cX5_ofHead 2 = .ok (.invokevirtual 100, 3) := by decide +kernel
theorem dX5_ofHead_5 : decode cX5_ofHead 5 = .ok (.ifCond .ne 5, 3) := by decide +kernel
theorem dX5_ofHead_8 : decode cX5_ofHead 8 = .ok (.iconst (-1), 1) := by decide +kernel
theorem dX5_ofHead_9 : decode cX5_ofHead 9 = .ok (.ireturn, 1) := by decide +kernel
theorem dX5_ofHead_10 : decode cX5_ofHead 10 = .ok (.iload_n 2, 1) := by decide +kernel
theorem dX5_ofHead_11 : decode cX5_ofHead 11 = .ok (.tableswitch 56 0 3 #[29, 36, 43, 50], 29) := by decide +kernel
theorem dX5_ofHead_40 : decode cX5_ofHead 40 = .ok (.aload_n 0, 1) := by decide +kernel
theorem dX5_ofHead_41 : decode cX5_ofHead 41 = .ok (.getfield 19, 3) := by decide +kernel
theorem dX5_ofHead_44 : decode cX5_ofHead 44 = .ok (.iload_n 1, 1) := by decide +kernel
theorem dX5_ofHead_45 : decode cX5_ofHead 45 = .ok (.iaload, 1) := by decide +kernel
theorem dX5_ofHead_46 : decode cX5_ofHead 46 = .ok (.ireturn, 1) := by decide +kernel
theorem dX5_ofHead_47 : decode cX5_ofHead 47 = .ok (.aload_n 0, 1) := by decide +kernel
theorem dX5_ofHead_48 : decode cX5_ofHead 48 = .ok (.getfield 22, 3) := by decide +kernel
theorem dX5_ofHead_51 : decode cX5_ofHead 51 = .ok (.iload_n 1, 1) := by decide +kernel
theorem dX5_ofHead_52 : decode cX5_ofHead 52 = .ok (.iaload, 1) := by decide +kernel
theorem dX5_ofHead_53 : decode cX5_ofHead 53 = .ok (.ireturn, 1) := by decide +kernel
theorem dX5_ofHead_54 : decode cX5_ofHead 54 = .ok (.aload_n 0, 1) := by decide +kernel
theorem dX5_ofHead_55 : decode cX5_ofHead 55 = .ok (.getfield 25, 3) := by decide +kernel
theorem dX5_ofHead_58 : decode cX5_ofHead 58 = .ok (.iload_n 1, 1) := by decide +kernel
theorem dX5_ofHead_59 : decode cX5_ofHead 59 = .ok (.iaload, 1) := by decide +kernel
theorem dX5_ofHead_60 : decode cX5_ofHead 60 = .ok (.ireturn, 1) := by decide +kernel
theorem dX5_ofHead_61 : decode cX5_ofHead 61 = .ok (.aload_n 0, 1) := by decide +kernel
theorem dX5_ofHead_62 : decode cX5_ofHead 62 = .ok (.iload_n 1, 1) := by decide +kernel
theorem dX5_ofHead_63 : decode cX5_ofHead 63 = .ok (.invokevirtual 103, 3) := by decide +kernel
theorem dX5_ofHead_66 : decode cX5_ofHead 66 = .ok (.ireturn, 1) := by decide +kernel
theorem dX5_ofHead_67 : decode cX5_ofHead 67 = .ok (.bipush (-2), 2) := by decide +kernel
theorem dX5_ofHead_69 : decode cX5_ofHead 69 = .ok (.ireturn, 1) := by decide +kernel
set_option maxRecDepth 20000 in
theorem S_X5_ofHead_0 {g : GG} {d : Nat} {F : Int32 → St → Prop} (a1 : Int32) (a2 : Int32) (σ : St) (h : (ME g d M_X5_isHead [vR 23, vI a1] σ (qI (fun r1 σ2 => ((¬ r1 = 0 → ((a2 = 0 → (vp_in a1 5 ∧ F (σ2 27 a1.toNatClampNeg) σ2)) ∧ (¬ a2 = 0 → ((a2 = 1 → (vp_in a1 5 ∧ F (σ2 28 a1.toNatClampNeg) σ2)) ∧ (¬ a2 = 1 → ((a2 = 2 → (vp_in a1 5 ∧ F (σ2 29 a1.toNatClampNeg) σ2)) ∧ (¬ a2 = 2 → ((a2 = 3 → (ME g d M_X5_lasts [vR 23, vI a1] σ2 (qI (fun r9 σ10 => F r9 σ10)))) ∧ (¬ a2 = 3 → F (-2) σ2))))))))) ∧ (r1 = 0 → F (-1) σ2)))))) : VM g (d + 1) M_X5_ofHead (qI F) 0 [(0, vR 23), (1, vI a1), (2, vI a2)] [] σ := by
  refine VE_aload_n 0 dX5_ofHead_0 (k := ?_)
  refine VE_iload_n 1 dX5_ofHead_1 (k := ?_)
  refine VE_cVi [vI a1] dX5_ofHead_2 ml_X5_100 h (fun r1 σ2 h3 => ?_) (rok_D d)
  refine VE_if_ne 10 dX5_ofHead_5 (fun c4 => ?_) (fun c4 => ?_)
  · refine VE_iload_n 2 dX5_ofHead_10 (k := ?_)
    by_cases c5 : a2 = 0
    · refine VE_tableIn 40 dX5_ofHead_11 (by rw [c5]; decide) (by rw [c5]; decide) (by rw [c5]; rfl) ?_
      refine VE_aload_n 0 dX5_ofHead_40 (k := ?_)
      refine VE_getR 27 dX5_ofHead_41 fl_X5_19 ?_
      refine VE_iload_n 1 dX5_ofHead_44 (k := ?_)
      refine VE_iald dX5_ofHead_45 ((h3.1 c4).1 c5).1 ?_
      exact VM_iret dX5_ofHead_46 ((h3.1 c4).1 c5).2
    · by_cases c6 : a2 = 1
      · refine VE_tableIn 47 dX5_ofHead_11 (by rw [c6]; decide) (by rw [c6]; decide) (by rw [c6]; rfl) ?_
        refine VE_aload_n 0 dX5_ofHead_47 (k := ?_)
        refine VE_getR 28 dX5_ofHead_48 fl_X5_22 ?_
        refine VE_iload_n 1 dX5_ofHead_51 (k := ?_)
        refine VE_iald dX5_ofHead_52 (((h3.1 c4).2 c5).1 c6).1 ?_
        exact VM_iret dX5_ofHead_53 (((h3.1 c4).2 c5).1 c6).2
      · by_cases c7 : a2 = 2
        · refine VE_tableIn 54 dX5_ofHead_11 (by rw [c7]; decide) (by rw [c7]; decide) (by rw [c7]; rfl) ?_
          refine VE_aload_n 0 dX5_ofHead_54 (k := ?_)
          refine VE_getR 29 dX5_ofHead_55 fl_X5_25 ?_
          refine VE_iload_n 1 dX5_ofHead_58 (k := ?_)
          refine VE_iald dX5_ofHead_59 ((((h3.1 c4).2 c5).2 c6).1 c7).1 ?_
          exact VM_iret dX5_ofHead_60 ((((h3.1 c4).2 c5).2 c6).1 c7).2
        · by_cases c8 : a2 = 3
          · refine VE_tableIn 61 dX5_ofHead_11 (by rw [c8]; decide) (by rw [c8]; decide) (by rw [c8]; rfl) ?_
            refine VE_aload_n 0 dX5_ofHead_61 (k := ?_)
            refine VE_iload_n 1 dX5_ofHead_62 (k := ?_)
            refine VE_cVi [vI a1] dX5_ofHead_63 ml_X5_103 (((((h3.1 c4).2 c5).2 c6).2 c7).1 c8) (fun r9 σ10 h11 => ?_) (rok_D d)
            exact VM_iret dX5_ofHead_66 h11
          · refine VE_tableOut 67 dX5_ofHead_11 (by have e0 : ¬ a2.toInt = 0 := i32_ne c5; have e1 : ¬ a2.toInt = 1 := i32_ne c6; have e2 : ¬ a2.toInt = 2 := i32_ne c7; have e3 : ¬ a2.toInt = 3 := i32_ne c8; omega) ?_
            refine VE_bipush (-2) dX5_ofHead_67 (k := ?_)
            exact VM_iret dX5_ofHead_69 (((((h3.1 c4).2 c5).2 c6).2 c7).2 c8)
  · refine VE_iconst (-1) dX5_ofHead_8 (k := ?_)
    exact VM_iret dX5_ofHead_9 (h3.2 c4)
theorem dX5_wear_0 : decode cX5_wear 0 = .ok (.aload_n 0, 1) := by decide +kernel
theorem dX5_wear_1 : decode cX5_wear 1 = .ok (.iload_n 1, 1) := by decide +kernel
theorem dX5_wear_2 : decode cX5_wear 2 = .ok (.invokevirtual 100, 3) := by decide +kernel
theorem dX5_wear_5 : decode cX5_wear 5 = .ok (.ifCond .ne 5, 3) := by decide +kernel
theorem dX5_wear_8 : decode cX5_wear 8 = .ok (.iconst (-1), 1) := by decide +kernel
theorem dX5_wear_9 : decode cX5_wear 9 = .ok (.ireturn, 1) := by decide +kernel
theorem dX5_wear_10 : decode cX5_wear 10 = .ok (.iload_n 2, 1) := by decide +kernel
theorem dX5_wear_11 : decode cX5_wear 11 = .ok (.iconst 1, 1) := by decide +kernel
theorem dX5_wear_12 : decode cX5_wear 12 = .ok (.bipush 9, 2) := by decide +kernel
theorem dX5_wear_14 : decode cX5_wear 14 = .ok (.invokestatic 55, 3) := by decide +kernel
theorem dX5_wear_17 : decode cX5_wear 17 = .ok (.ifCond .ne 6, 3) := by decide +kernel
theorem dX5_wear_20 : decode cX5_wear 20 = .ok (.bipush (-2), 2) := by decide +kernel
theorem dX5_wear_22 : decode cX5_wear 22 = .ok (.ireturn, 1) := by decide +kernel
theorem dX5_wear_23 : decode cX5_wear 23 = .ok (.aload_n 0, 1) := by decide +kernel
theorem dX5_wear_24 : decode cX5_wear 24 = .ok (.getfield 22, 3) := by decide +kernel
theorem dX5_wear_27 : decode cX5_wear 27 = .ok (.iload_n 1, 1) := by decide +kernel
theorem dX5_wear_28 : decode cX5_wear 28 = .ok (.iaload, 1) := by decide +kernel
theorem dX5_wear_29 : decode cX5_wear 29 = .ok (.istore_n 3, 1) := by decide +kernel
theorem dX5_wear_30 : decode cX5_wear 30 = .ok (.aload_n 0, 1) := by decide +kernel
theorem dX5_wear_31 : decode cX5_wear 31 = .ok (.getfield 22, 3) := by decide +kernel
theorem dX5_wear_34 : decode cX5_wear 34 = .ok (.iload_n 1, 1) := by decide +kernel
theorem dX5_wear_35 : decode cX5_wear 35 = .ok (.iload_n 2, 1) := by decide +kernel
theorem dX5_wear_36 : decode cX5_wear 36 = .ok (.iastore, 1) := by decide +kernel
theorem dX5_wear_37 : decode cX5_wear 37 = .ok (.iload_n 3, 1) := by decide +kernel
theorem dX5_wear_38 : decode cX5_wear 38 = .ok (.ireturn, 1) := by decide +kernel
set_option maxRecDepth 20000 in
theorem S_X5_wear_0 {g : GG} {d : Nat} {F : Int32 → St → Prop} (a1 : Int32) (a2 : Int32) (σ : St) (h : (ME g d M_X5_isHead [vR 23, vI a1] σ (qI (fun r1 σ2 => ((¬ r1 = 0 → (ME g d M_X5_within [vI a2, vI 1, vI 9] σ2 (qI (fun r5 σ6 => ((¬ r5 = 0 → (vp_in a1 5 ∧ F (σ6 28 a1.toNatClampNeg) (sU σ6 28 a1.toNatClampNeg a2))) ∧ (r5 = 0 → F (-2) σ6)))))) ∧ (r1 = 0 → F (-1) σ2)))))) : VM g (d + 1) M_X5_wear (qI F) 0 [(0, vR 23), (1, vI a1), (2, vI a2)] [] σ := by
  refine VE_aload_n 0 dX5_wear_0 (k := ?_)
  refine VE_iload_n 1 dX5_wear_1 (k := ?_)
  refine VE_cVi [vI a1] dX5_wear_2 ml_X5_100 h (fun r1 σ2 h3 => ?_) (rok_D d)
  refine VE_if_ne 10 dX5_wear_5 (fun c4 => ?_) (fun c4 => ?_)
  · refine VE_iload_n 2 dX5_wear_10 (k := ?_)
    refine VE_iconst 1 dX5_wear_11 (k := ?_)
    refine VE_bipush 9 dX5_wear_12 (k := ?_)
    refine VE_cSi [vI a2, vI 1, vI 9] dX5_wear_14 ml_X5_55 (h3.1 c4) (fun r5 σ6 h7 => ?_) (rok_D d)
    refine VE_if_ne 23 dX5_wear_17 (fun c8 => ?_) (fun c8 => ?_)
    · refine VE_aload_n 0 dX5_wear_23 (k := ?_)
      refine VE_getR 28 dX5_wear_24 fl_X5_22 ?_
      refine VE_iload_n 1 dX5_wear_27 (k := ?_)
      refine VE_iald dX5_wear_28 (h7.1 c8).1 ?_
      refine VE_istore_n (ls' := [(3, vI (σ6 28 a1.toNatClampNeg)), (0, vR 23), (1, vI a1), (2, vI a2)]) dX5_wear_29 ?_
      refine VE_aload_n 1 dX5_wear_30 (k := ?_)
      refine VE_getR 28 dX5_wear_31 fl_X5_22 ?_
      refine VE_iload_n 2 dX5_wear_34 (k := ?_)
      refine VE_iload_n 3 dX5_wear_35 (k := ?_)
      refine VE_iast dX5_wear_36 (h7.1 c8).1 ?_
      refine VE_iload_n 0 dX5_wear_37 (k := ?_)
      exact VM_iret dX5_wear_38 (h7.1 c8).2
    · refine VE_bipush (-2) dX5_wear_20 (k := ?_)
      exact VM_iret dX5_wear_22 (h7.2 c8)
  · refine VE_iconst (-1) dX5_wear_8 (k := ?_)
    exact VM_iret dX5_wear_9 (h3.2 c4)
theorem dX5_knows_0 : decode cX5_knows 0 = .ok (.aload_n 0, 1) := by decide +kernel
theorem dX5_knows_1 : decode cX5_knows 1 = .ok (.iload_n 1, 1) := by decide +kernel
theorem dX5_knows_2 : decode cX5_knows 2 = .ok (.invokevirtual 100, 3) := by decide +kernel
theorem dX5_knows_5 : decode cX5_knows 5 = .ok (.ifCond .ne 5, 3) := by decide +kernel
theorem dX5_knows_8 : decode cX5_knows 8 = .ok (.iconst (-1), 1) := by decide +kernel
theorem dX5_knows_9 : decode cX5_knows 9 = .ok (.ireturn, 1) := by decide +kernel
theorem dX5_knows_10 : decode cX5_knows 10 = .ok (.iload_n 2, 1) := by decide +kernel
theorem dX5_knows_11 : decode cX5_knows 11 = .ok (.iconst 0, 1) := by decide +kernel
theorem dX5_knows_12 : decode cX5_knows 12 = .ok (.iconst 5, 1) := by decide +kernel
theorem dX5_knows_13 : decode cX5_knows 13 = .ok (.invokestatic 55, 3) := by decide +kernel
theorem dX5_knows_16 : decode cX5_knows 16 = .ok (.ifCond .ne 6, 3) := by decide +kernel
theorem dX5_knows_19 : decode cX5_knows 19 = .ok (.bipush (-2), 2) := by decide +kernel
theorem dX5_knows_21 : decode cX5_knows 21 = .ok (.ireturn, 1) := by decide +kernel
theorem dX5_knows_22 : decode cX5_knows 22 = .ok (.aload_n 0, 1) := by decide +kernel
theorem dX5_knows_23 : decode cX5_knows 23 = .ok (.getfield 25, 3) := by decide +kernel
theorem dX5_knows_26 : decode cX5_knows 26 = .ok (.iload_n 1, 1) := by decide +kernel
theorem dX5_knows_27 : decode cX5_knows 27 = .ok (.iaload, 1) := by decide +kernel
theorem dX5_knows_28 : decode cX5_knows 28 = .ok (.istore_n 3, 1) := by decide +kernel
theorem dX5_knows_29 : decode cX5_knows 29 = .ok (.aload_n 0, 1) := by decide +kernel
theorem dX5_knows_30 : decode cX5_knows 30 = .ok (.getfield 25, 3) := by decide +kernel
theorem dX5_knows_33 : decode cX5_knows 33 = .ok (.iload_n 1, 1) := by decide +kernel
theorem dX5_knows_34 : decode cX5_knows 34 = .ok (.iload_n 2, 1) := by decide +kernel
theorem dX5_knows_35 : decode cX5_knows 35 = .ok (.iastore, 1) := by decide +kernel
theorem dX5_knows_36 : decode cX5_knows 36 = .ok (.iload_n 3, 1) := by decide +kernel
theorem dX5_knows_37 : decode cX5_knows 37 = .ok (.ireturn, 1) := by decide +kernel
set_option maxRecDepth 20000 in
theorem S_X5_knows_0 {g : GG} {d : Nat} {F : Int32 → St → Prop} (a1 : Int32) (a2 : Int32) (σ : St) (h : (ME g d M_X5_isHead [vR 23, vI a1] σ (qI (fun r1 σ2 => ((¬ r1 = 0 → (ME g d M_X5_within [vI a2, vI 0, vI 5] σ2 (qI (fun r5 σ6 => ((¬ r5 = 0 → (vp_in a1 5 ∧ F (σ6 29 a1.toNatClampNeg) (sU σ6 29 a1.toNatClampNeg a2))) ∧ (r5 = 0 → F (-2) σ6)))))) ∧ (r1 = 0 → F (-1) σ2)))))) : VM g (d + 1) M_X5_knows (qI F) 0 [(0, vR 23), (1, vI a1), (2, vI a2)] [] σ := by
  refine VE_aload_n 0 dX5_knows_0 (k := ?_)
  refine VE_iload_n 1 dX5_knows_1 (k := ?_)
  refine VE_cVi [vI a1] dX5_knows_2 ml_X5_100 h (fun r1 σ2 h3 => ?_) (rok_D d)
  refine VE_if_ne 10 dX5_knows_5 (fun c4 => ?_) (fun c4 => ?_)
  · refine VE_iload_n 2 dX5_knows_10 (k := ?_)
    refine VE_iconst 0 dX5_knows_11 (k := ?_)
    refine VE_iconst 5 dX5_knows_12 (k := ?_)
    refine VE_cSi [vI a2, vI 0, vI 5] dX5_knows_13 ml_X5_55 (h3.1 c4) (fun r5 σ6 h7 => ?_) (rok_D d)
    refine VE_if_ne 22 dX5_knows_16 (fun c8 => ?_) (fun c8 => ?_)
    · refine VE_aload_n 0 dX5_knows_22 (k := ?_)
      refine VE_getR 29 dX5_knows_23 fl_X5_25 ?_
      refine VE_iload_n 1 dX5_knows_26 (k := ?_)
      refine VE_iald dX5_knows_27 (h7.1 c8).1 ?_
      refine VE_istore_n (ls' := [(3, vI (σ6 29 a1.toNatClampNeg)), (0, vR 23), (1, vI a1), (2, vI a2)]) dX5_knows_28 ?_
      refine VE_aload_n 1 dX5_knows_29 (k := ?_)
      refine VE_getR 29 dX5_knows_30 fl_X5_25 ?_
      refine VE_iload_n 2 dX5_knows_33 (k := ?_)
      refine VE_iload_n 3 dX5_knows_34 (k := ?_)
      refine VE_iast dX5_knows_35 (h7.1 c8).1 ?_
      refine VE_iload_n 0 dX5_knows_36 (k := ?_)
      exact VM_iret dX5_knows_37 (h7.1 c8).2
    · refine VE_bipush (-2) dX5_knows_19 (k := ?_)
      exact VM_iret dX5_knows_21 (h7.2 c8)
  · refine VE_iconst (-1) dX5_knows_8 (k := ?_)
    exact VM_iret dX5_knows_9 (h3.2 c4)
theorem dX5_begin_0 : decode cX5_begin 0 = .ok (.iconst 0, 1) := by decide +kernel
theorem dX5_begin_1 : decode cX5_begin 1 = .ok (.istore_n 1, 1) := by decide +kernel
theorem dX5_begin_2 : decode cX5_begin 2 = .ok (.iload_n 1, 1) := by decide +kernel
theorem dX5_begin_3 : decode cX5_begin 3 = .ok (.aload_n 0, 1) := by decide +kernel
theorem dX5_begin_4 : decode cX5_begin 4 = .ok (.getfield 59, 3) := by decide +kernel
theorem dX5_begin_7 : decode cX5_begin 7 = .ok (.if_icmp .ge 23, 3) := by decide +kernel
theorem dX5_begin_10 : decode cX5_begin 10 = .ok (.aload_n 0, 1) := by decide +kernel
theorem dX5_begin_11 : decode cX5_begin 11 = .ok (.getfield 31, 3) := by decide +kernel
theorem dX5_begin_14 : decode cX5_begin 14 = .ok (.iload_n 1, 1) := by decide +kernel
theorem dX5_begin_15 : decode cX5_begin 15 = .ok (.iload_n 1, 1) := by decide +kernel
theorem dX5_begin_16 : decode cX5_begin 16 = .ok (.iastore, 1) := by decide +kernel
theorem dX5_begin_17 : decode cX5_begin 17 = .ok (.aload_n 0, 1) := by decide +kernel
theorem dX5_begin_18 : decode cX5_begin 18 = .ok (.getfield 34, 3) := by decide +kernel
theorem dX5_begin_21 : decode cX5_begin 21 = .ok (.iload_n 1, 1) := by decide +kernel
theorem dX5_begin_22 : decode cX5_begin 22 = .ok (.iconst 0, 1) := by decide +kernel
theorem dX5_begin_23 : decode cX5_begin 23 = .ok (.iastore, 1) := by decide +kernel
theorem dX5_begin_24 : decode cX5_begin 24 = .ok (.iinc 1 1, 3) := by decide +kernel
theorem dX5_begin_27 : decode cX5_begin 27 = .ok (.goto (-25), 3) := by decide +kernel
theorem dX5_begin_30 : decode cX5_begin 30 = .ok (.aload_n 0, 1) := by decide +kernel
theorem dX5_begin_31 : decode cX5_begin 31 = .ok (.bipush (-9), 2) := by decide +kernel
theorem dX5_begin_33 : decode cX5_begin 33 = .ok (.putfield 106, 3) := by decide +kernel
theorem dX5_begin_36 : decode cX5_begin 36 = .ok (.return_, 1) := by decide +kernel
set_option maxRecDepth 20000 in
theorem S_X5_begin_0 {g : GG} {d : Nat} {F : St → Prop}  (σ : St) (h : VM g d M_X5_begin (qV F) 2 [(0, vR 23), (1, vI 0)] [] σ) : VM g d M_X5_begin (qV F) 0 [(0, vR 23)] [] σ := by
  refine VE_iconst 0 dX5_begin_0 (k := ?_)
  refine VE_istore_n (ls' := [(1, vI 0), (0, vR 23)]) dX5_begin_1 ?_
  exact VE_sub [1, 0] rfl h
set_option maxRecDepth 20000 in
theorem S_X5_begin_2 {g : GG} {d : Nat} {F : St → Prop} (x1 : Int32) (σ : St) (h : (((σ 23 5) ≤ x1 → F (sU σ 23 14 (-9))) ∧ (¬ (σ 23 5) ≤ x1 → (vp_in x1 5 ∧ VM g d M_X5_begin (qV F) 2 [(0, vR 23), (1, vI (x1 + 1))] [] (sU (sU σ 31 x1.toNatClampNeg x1) 32 x1.toNatClampNeg 0))))) : VM g d M_X5_begin (qV F) 2 [(0, vR 23), (1, vI x1)] [] σ := by
  refine VE_iload_n 1 dX5_begin_2 (k := ?_)
  refine VE_aload_n 0 dX5_begin_3 (k := ?_)
  refine VE_getI dX5_begin_4 fl_X5_59 ?_
  refine VE_icmp_ge 30 dX5_begin_7 (fun c1 => ?_) (fun c1 => ?_)
  · refine VE_aload_n 0 dX5_begin_30 (k := ?_)
    refine VE_bipush (-9) dX5_begin_31 (k := ?_)
    refine VE_put dX5_begin_33 fl_X5_106 ?_
    exact VM_vret dX5_begin_36 (h.1 c1)
  · refine VE_aload_n 0 dX5_begin_10 (k := ?_)
    refine VE_getR 31 dX5_begin_11 fl_X5_31 ?_
    refine VE_iload_n 1 dX5_begin_14 (k := ?_)
    refine VE_iload_n 1 dX5_begin_15 (k := ?_)
    refine VE_iast dX5_begin_16 (h.2 c1).1 ?_
    refine VE_aload_n 0 dX5_begin_17 (k := ?_)
    refine VE_getR 32 dX5_begin_18 fl_X5_34 ?_
    refine VE_iload_n 1 dX5_begin_21 (k := ?_)
    refine VE_iconst 0 dX5_begin_22 (k := ?_)
    refine VE_iast dX5_begin_23 (h.2 c1).1 ?_
    refine VE_iinc 1 (x1 + 1) (ls' := [(1, vI (x1 + 1)), (0, vR 23)]) dX5_begin_24 ?_
    refine VE_goto 2 dX5_begin_27 ?_
    exact VE_sub [1, 0] rfl (h.2 c1).2
theorem dX5_change_0 : decode cX5_change 0 = .ok (.aload_n 0, 1) := by decide +kernel
theorem dX5_change_1 : decode cX5_change 1 = .ok (.getfield 31, 3) := by decide +kernel
theorem dX5_change_4 : decode cX5_change 4 = .ok (.iload_n 1, 1) := by decide +kernel
theorem dX5_change_5 : decode cX5_change 5 = .ok (.iaload, 1) := by decide +kernel
theorem dX5_change_6 : decode cX5_change 6 = .ok (.istore_n 2, 1) := by decide +kernel
theorem dX5_change_7 : decode cX5_change 7 = .ok (.aload_n 0, 1) := by decide +kernel
theorem dX5_change_8 : decode cX5_change 8 = .ok (.getfield 31, 3) := by decide +kernel
theorem dX5_change_11 : decode cX5_change 11 = .ok (.iload_n 1, 1) := by decide +kernel
theorem dX5_change_12 : decode cX5_change 12 = .ok (.aload_n 0, 1) := by decide +kernel
theorem dX5_change_13 : decode cX5_change 13 = .ok (.getfield 106, 3) := by decide +kernel
theorem dX5_change_16 : decode cX5_change 16 = .ok (.iastore, 1) := by decide +kernel
theorem dX5_change_17 : decode cX5_change 17 = .ok (.aload_n 0, 1) := by decide +kernel
theorem dX5_change_18 : decode cX5_change 18 = .ok (.iload_n 2, 1) := by decide +kernel
theorem dX5_change_19 : decode cX5_change 19 = .ok (.putfield 106, 3) := by decide +kernel
theorem dX5_change_22 : decode cX5_change 22 = .ok (.return_, 1) := by decide +kernel
set_option maxRecDepth 20000 in
theorem S_X5_change_0 {g : GG} {d : Nat} {F : St → Prop} (a1 : Int32) (σ : St) (h : (vp_in a1 5 ∧ F (sU (sU σ 31 a1.toNatClampNeg (σ 23 14)) 23 14 (σ 31 a1.toNatClampNeg)))) : VM g d M_X5_change (qV F) 0 [(0, vR 23), (1, vI a1)] [] σ := by
  refine VE_aload_n 0 dX5_change_0 (k := ?_)
  refine VE_getR 31 dX5_change_1 fl_X5_31 ?_
  refine VE_iload_n 1 dX5_change_4 (k := ?_)
  refine VE_iald dX5_change_5 h.1 ?_
  refine VE_istore_n (ls' := [(2, vI (σ 31 a1.toNatClampNeg)), (0, vR 23), (1, vI a1)]) dX5_change_6 ?_
  refine VE_aload_n 1 dX5_change_7 (k := ?_)
  refine VE_getR 31 dX5_change_8 fl_X5_31 ?_
  refine VE_iload_n 2 dX5_change_11 (k := ?_)
  refine VE_aload_n 1 dX5_change_12 (k := ?_)
  refine VE_getI dX5_change_13 fl_X5_106 ?_
  refine VE_iast dX5_change_16 h.1 ?_
  refine VE_aload_n 1 dX5_change_17 (k := ?_)
  refine VE_iload_n 0 dX5_change_18 (k := ?_)
  refine VE_put dX5_change_19 fl_X5_106 ?_
  exact VM_vret dX5_change_22 h.2
theorem dX5_visit_0 : decode cX5_visit 0 = .ok (.aload_n 0, 1) := by decide +kernel
theorem dX5_visit_1 : decode cX5_visit 1 = .ok (.getfield 106, 3) := by decide +kernel
theorem dX5_visit_4 : decode cX5_visit 4 = .ok (.bipush (-9), 2) := by decide +kernel
theorem dX5_visit_6 : decode cX5_visit 6 = .ok (.if_icmp .eq 38, 3) := by decide +kernel
theorem dX5_visit_9 : decode cX5_visit 9 = .ok (.aload_n 0, 1) := by decide +kernel
theorem dX5_visit_10 : decode cX5_visit 10 = .ok (.getfield 34, 3) := by decide +kernel
theorem dX5_visit_13 : decode cX5_visit 13 = .ok (.aload_n 0, 1) := by decide +kernel
theorem dX5_visit_14 : decode cX5_visit 14 = .ok (.getfield 106, 3) := by decide +kernel
theorem dX5_visit_17 : decode cX5_visit 17 = .ok (.iaload, 1) := by decide +kernel
theorem dX5_visit_18 : decode cX5_visit 18 = .ok (.aload_n 0, 1) := by decide +kernel
theorem dX5_visit_19 : decode cX5_visit 19 = .ok (.aload_n 0, 1) := by decide +kernel
theorem dX5_visit_20 : decode cX5_visit 20 = .ok (.getfield 106, 3) := by decide +kernel
theorem dX5_visit_23 : decode cX5_visit 23 = .ok (.invokevirtual 103, 3) := by decide +kernel
theorem dX5_visit_26 : decode cX5_visit 26 = .ok (.if_icmp .ne 5, 3) := by decide +kernel
theorem dX5_visit_29 : decode cX5_visit 29 = .ok (.iconst 0, 1) := by decide +kernel
theorem dX5_visit_30 : decode cX5_visit 30 = .ok (.ireturn, 1) := by decide +kernel
theorem dX5_visit_31 : decode cX5_visit 31 = .ok (.aload_n 0, 1) := by decide +kernel
theorem dX5_visit_32 : decode cX5_visit 32 = .ok (.getfield 34, 3) := by decide +kernel
theorem dX5_visit_35 : decode cX5_visit 35 = .ok (.aload_n 0, 1) := by decide +kernel
theorem dX5_visit_36 : decode cX5_visit 36 = .ok (.getfield 106, 3) := by decide +kernel
theorem dX5_visit_39 : decode cX5_visit 39 = .ok (.dup2, 1) := by decide +kernel
theorem dX5_visit_40 : decode cX5_visit 40 = .ok (.iaload, 1) := by decide +kernel
theorem dX5_visit_41 : decode cX5_visit 41 = .ok (.iconst 1, 1) := by decide +kernel
theorem dX5_visit_42 : decode cX5_visit 42 = .ok (.iadd, 1) := by decide +kernel
theorem dX5_visit_43 : decode cX5_visit 43 = .ok (.iastore, 1) := by decide +kernel
theorem dX5_visit_44 : decode cX5_visit 44 = .ok (.aload_n 0, 1) := by decide +kernel
theorem dX5_visit_45 : decode cX5_visit 45 = .ok (.iload_n 1, 1) := by decide +kernel
theorem dX5_visit_46 : decode cX5_visit 46 = .ok (.invokevirtual 109, 3) := by decide +kernel
theorem dX5_visit_49 : decode cX5_visit 49 = .ok (.iconst 1, 1) := by decide +kernel
theorem dX5_visit_50 : decode cX5_visit 50 = .ok (.ireturn, 1) := by decide +kernel
set_option maxRecDepth 20000 in
theorem S_X5_visit_0 {g : GG} {d : Nat} {F : Int32 → St → Prop} (a1 : Int32) (σ : St) (h : (((σ 23 14) = (-9) → (ME g d M_X5_change [vR 23, vI a1] σ (qV (fun σ3 => F 1 σ3)))) ∧ (¬ (σ 23 14) = (-9) → (vp_in (σ 23 14) 5 ∧ (ME g d M_X5_lasts [vR 23, vI (σ 23 14)] σ (qI (fun r5 σ6 => ((¬ (σ 32 ((σ 23 14).toNatClampNeg)) = r5 → (vp_in (σ6 23 14) 5 ∧ (ME g d M_X5_change [vR 23, vI a1] (sU σ6 32 ((σ6 23 14).toNatClampNeg) ((σ6 32 ((σ6 23 14).toNatClampNeg)) + 1)) (qV (fun σ10 => F 1 σ10))))) ∧ ((σ 32 ((σ 23 14).toNatClampNeg)) = r5 → F 0 σ6))))))))) : VM g (d + 1) M_X5_visit (qI F) 0 [(0, vR 23), (1, vI a1)] [] σ := by
  refine VE_aload_n 0 dX5_visit_0 (k := ?_)
  refine VE_getI dX5_visit_1 fl_X5_106 ?_
  refine VE_bipush (-9) dX5_visit_4 (k := ?_)
  refine VE_icmp_eq 44 dX5_visit_6 (fun c1 => ?_) (fun c1 => ?_)
  · refine VE_aload_n 0 dX5_visit_44 (k := ?_)
    refine VE_iload_n 1 dX5_visit_45 (k := ?_)
    refine VE_cVv [vI a1] dX5_visit_46 ml_X5_109 (h.1 c1) (fun σ3 h4 => ?_) (rok_D d)
    refine VE_iconst 1 dX5_visit_49 (k := ?_)
    exact VM_zret dX5_visit_50 h4 (by decide)
  · refine VE_aload_n 0 dX5_visit_9 (k := ?_)
    refine VE_getR 32 dX5_visit_10 fl_X5_34 ?_
    refine VE_aload_n 0 dX5_visit_13 (k := ?_)
    refine VE_getI dX5_visit_14 fl_X5_106 ?_
    refine VE_iald dX5_visit_17 (h.2 c1).1 ?_
    refine VE_aload_n 0 dX5_visit_18 (k := ?_)
    refine VE_aload_n 0 dX5_visit_19 (k := ?_)
    refine VE_getI dX5_visit_20 fl_X5_106 ?_
    refine VE_cVi [vI (σ 23 14)] dX5_visit_23 ml_X5_103 (h.2 c1).2 (fun r5 σ6 h7 => ?_) (rok_D d)
    refine VE_icmp_ne 31 dX5_visit_26 (fun c8 => ?_) (fun c8 => ?_)
    · refine VE_aload_n 0 dX5_visit_31 (k := ?_)
      refine VE_getR 32 dX5_visit_32 fl_X5_34 ?_
      refine VE_aload_n 0 dX5_visit_35 (k := ?_)
      refine VE_getI dX5_visit_36 fl_X5_106 ?_
      refine VE_dup2 dX5_visit_39 (k := ?_)
      refine VE_iald dX5_visit_40 (h7.1 c8).1 ?_
      refine VE_iconst 1 dX5_visit_41 (k := ?_)
      refine VE_iadd dX5_visit_42 ?_
      refine VE_iast dX5_visit_43 (h7.1 c8).1 ?_
      refine VE_aload_n 0 dX5_visit_44 (k := ?_)
      refine VE_iload_n 1 dX5_visit_45 (k := ?_)
      refine VE_cVv [vI a1] dX5_visit_46 ml_X5_109 (h7.1 c8).2 (fun σ10 h11 => ?_) (rok_D d)
      refine VE_iconst 1 dX5_visit_49 (k := ?_)
      exact VM_zret dX5_visit_50 h11 (by decide)
    · refine VE_iconst 0 dX5_visit_29 (k := ?_)
      exact VM_zret dX5_visit_30 (h7.2 c8) (by decide)
theorem dX5_layVisits_0 : decode cX5_layVisits 0 = .ok (.aload_n 0, 1) := by decide +kernel
theorem dX5_layVisits_1 : decode cX5_layVisits 1 = .ok (.iload_n 1, 1) := by decide +kernel
theorem dX5_layVisits_2 : decode cX5_layVisits 2 = .ok (.iload_n 2, 1) := by decide +kernel
theorem dX5_layVisits_3 : decode cX5_layVisits 3 = .ok (.iload_n 3, 1) := by decide +kernel
theorem dX5_layVisits_4 : decode cX5_layVisits 4 = .ok (.iload 4, 2) := by decide +kernel
theorem dX5_layVisits_6 : decode cX5_layVisits 6 = .ok (.invokevirtual 72, 3) := by decide +kernel
theorem dX5_layVisits_9 : decode cX5_layVisits 9 = .ok (.istore 5, 2) := by decide +kernel
theorem dX5_layVisits_11 : decode cX5_layVisits 11 = .ok (.iload 5, 2) := by decide +kernel
theorem dX5_layVisits_13 : decode cX5_layVisits 13 = .ok (.ifCond .eq 10, 3) := by decide +kernel
theorem dX5_layVisits_16 : decode cX5_layVisits 16 = .ok (.aload_n 0, 1) := by decide +kernel
theorem dX5_layVisits_17 : decode cX5_layVisits 17 = .ok (.iload 5, 2) := by decide +kernel
theorem dX5_layVisits_19 : decode cX5_layVisits 19 = .ok (.invokevirtual 76, 3) := by decide +kernel
theorem dX5_layVisits_22 : decode cX5_layVisits 22 = .ok (.ireturn, 1) := by decide +kernel
theorem dX5_layVisits_23 : decode cX5_layVisits 23 = .ok (.aload_n 0, 1) := by decide +kernel
theorem dX5_layVisits_24 : decode cX5_layVisits 24 = .ok (.getfield 59, 3) := by decide +kernel
theorem dX5_layVisits_27 : decode cX5_layVisits 27 = .ok (.ifCond .ne 6, 3) := by decide +kernel
theorem dX5_layVisits_30 : decode cX5_layVisits 30 = .ok (.bipush (-3), 2) := by decide +kernel
theorem dX5_layVisits_32 : decode cX5_layVisits 32 = .ok (.ireturn, 1) := by decide +kernel
theorem dX5_layVisits_33 : decode cX5_layVisits 33 = .ok (.iconst 0, 1) := by decide +kernel
theorem dX5_layVisits_34 : decode cX5_layVisits 34 = .ok (.istore 6, 2) := by decide +kernel
theorem dX5_layVisits_36 : decode cX5_layVisits 36 = .ok (.iload 6, 2) := by decide +kernel
theorem dX5_layVisits_38 : decode cX5_layVisits 38 = .ok (.iload 4, 2) := by decide +kernel
theorem dX5_layVisits_40 : decode cX5_layVisits 40 = .ok (.if_icmp .ge 46, 3) := by decide +kernel
theorem dX5_layVisits_43 : decode cX5_layVisits 43 = .ok (.aload_n 0, 1) := by decide +kernel
theorem dX5_layVisits_44 : decode cX5_layVisits 44 = .ok (.getfield 37, 3) := by decide +kernel
theorem dX5_layVisits_47 : decode cX5_layVisits 47 = .ok (.iload 6, 2) := by decide +kernel
theorem dX5_layVisits_49 : decode cX5_layVisits 49 = .ok (.aload_n 0, 1) := by decide +kernel
theorem dX5_layVisits_50 : decode cX5_layVisits 50 = .ok (.getfield 16, 3) := by decide +kernel
theorem dX5_layVisits_53 : decode cX5_layVisits 53 = .ok (.bipush 60, 2) := by decide +kernel
theorem dX5_layVisits_55 : decode cX5_layVisits 55 = .ok (.iload_n 1, 1) := by decide +kernel
theorem dX5_layVisits_56 : decode cX5_layVisits 56 = .ok (.imul, 1) := by decide +kernel
theorem dX5_layVisits_57 : decode cX5_layVisits 57 = .ok (.iload_n 3, 1) := by decide +kernel
theorem dX5_layVisits_58 : decode cX5_layVisits 58 = .ok (.iadd, 1) := by decide +kernel
theorem dX5_layVisits_59 : decode cX5_layVisits 59 = .ok (.iload 6, 2) := by decide +kernel
theorem dX5_layVisits_61 : decode cX5_layVisits 61 = .ok (.iadd, 1) := by decide +kernel
theorem dX5_layVisits_62 : decode cX5_layVisits 62 = .ok (.iaload, 1) := by decide +kernel
theorem dX5_layVisits_63 : decode cX5_layVisits 63 = .ok (.iastore, 1) := by decide +kernel
theorem dX5_layVisits_64 : decode cX5_layVisits 64 = .ok (.aload_n 0, 1) := by decide +kernel
theorem dX5_layVisits_65 : decode cX5_layVisits 65 = .ok (.aload_n 0, 1) := by decide +kernel
theorem dX5_layVisits_66 : decode cX5_layVisits 66 = .ok (.getfield 37, 3) := by decide +kernel
theorem dX5_layVisits_69 : decode cX5_layVisits 69 = .ok (.iload 6, 2) := by decide +kernel
theorem dX5_layVisits_71 : decode cX5_layVisits 71 = .ok (.iaload, 1) := by decide +kernel
theorem dX5_layVisits_72 : decode cX5_layVisits 72 = .ok (.invokevirtual 100, 3) := by decide +kernel
theorem dX5_layVisits_75 : decode cX5_layVisits 75 = .ok (.ifCond .ne 5, 3) := by decide +kernel
theorem dX5_layVisits_78 : decode cX5_layVisits 78 = .ok (.iconst (-1), 1) := by decide +kernel
theorem dX5_layVisits_79 : decode cX5_layVisits 79 = .ok (.ireturn, 1) := by decide +kernel
theorem dX5_layVisits_80 : decode cX5_layVisits 80 = .ok (.iinc 6 1, 3) := by decide +kernel
theorem dX5_layVisits_83 : decode cX5_layVisits 83 = .ok (.goto (-47), 3) := by decide +kernel
theorem dX5_layVisits_86 : decode cX5_layVisits 86 = .ok (.aload_n 0, 1) := by decide +kernel
theorem dX5_layVisits_87 : decode cX5_layVisits 87 = .ok (.iload 4, 2) := by decide +kernel
theorem dX5_layVisits_89 : decode cX5_layVisits 89 = .ok (.putfield 113, 3) := by decide +kernel
theorem dX5_layVisits_92 : decode cX5_layVisits 92 = .ok (.iconst 0, 1) := by decide +kernel
theorem dX5_layVisits_93 : decode cX5_layVisits 93 = .ok (.ireturn, 1) := by decide +kernel
set_option maxRecDepth 20000 in
theorem S_X5_layVisits_0 {g : GG} {d : Nat} {F : Int32 → St → Prop} (a1 : Int32) (a2 : Int32) (a3 : Int32) (a4 : Int32) (σ : St) (h : (ME g d M_X5_against [vR 23, vI a1, vI a2, vI a3, vI a4] σ (qI (fun r1 σ2 => ((r1 = 0 → ((¬ (σ2 23 5) = 0 → VM g (d + 1) M_X5_layVisits (qI F) 36 [(0, vR 23), (1, vI a1), (2, vI a2), (3, vI a3), (4, vI a4), (5, vI r1), (6, vI 0)] [] σ2) ∧ ((σ2 23 5) = 0 → F (-3) σ2))) ∧ (¬ r1 = 0 → (ME g d M_X5_fails [vR 23, vI r1] σ2 (qI (fun r6 σ7 => F r6 σ7))))))))) : VM g (d + 1) M_X5_layVisits (qI F) 0 [(0, vR 23), (1, vI a1), (2, vI a2), (3, vI a3), (4, vI a4)] [] σ := by
  refine VE_aload_n 0 dX5_layVisits_0 (k := ?_)
  refine VE_iload_n 1 dX5_layVisits_1 (k := ?_)
  refine VE_iload_n 2 dX5_layVisits_2 (k := ?_)
  refine VE_iload_n 3 dX5_layVisits_3 (k := ?_)
  refine VE_iload 4 dX5_layVisits_4 (k := ?_)
  refine VE_cVi [vI a1, vI a2, vI a3, vI a4] dX5_layVisits_6 ml_X5_72 h (fun r1 σ2 h3 => ?_) (rok_D d)
  refine VE_istore (ls' := [(5, vI r1), (0, vR 23), (1, vI a1), (2, vI a2), (3, vI a3), (4, vI a4)]) dX5_layVisits_9 ?_
  refine VE_iload 0 dX5_layVisits_11 (k := ?_)
  refine VE_if_eq 23 dX5_layVisits_13 (fun c4 => ?_) (fun c4 => ?_)
  · refine VE_aload_n 1 dX5_layVisits_23 (k := ?_)
    refine VE_getI dX5_layVisits_24 fl_X5_59 ?_
    refine VE_if_ne 33 dX5_layVisits_27 (fun c5 => ?_) (fun c5 => ?_)
    · refine VE_iconst 0 dX5_layVisits_33 (k := ?_)
      refine VE_istore (ls' := [(6, vI 0), (5, vI r1), (0, vR 23), (1, vI a1), (2, vI a2), (3, vI a3), (4, vI a4)]) dX5_layVisits_34 ?_
      exact VE_sub [2, 3, 4, 5, 6, 1, 0] rfl ((h3.1 c4).1 c5)
    · refine VE_bipush (-3) dX5_layVisits_30 (k := ?_)
      exact VM_iret dX5_layVisits_32 ((h3.1 c4).2 c5)
  · refine VE_aload_n 1 dX5_layVisits_16 (k := ?_)
    refine VE_iload 0 dX5_layVisits_17 (k := ?_)
    refine VE_cVi [vI r1] dX5_layVisits_19 ml_X5_76 (h3.2 c4) (fun r6 σ7 h8 => ?_) (rok_D d)
    exact VM_iret dX5_layVisits_22 h8
set_option maxRecDepth 20000 in
theorem S_X5_layVisits_36 {g : GG} {d : Nat} {F : Int32 → St → Prop} (x1 : Int32) (x2 : Int32) (x3 : Int32) (x4 : Int32) (x5 : Int32) (x6 : Int32) (σ : St) (h : ((x4 ≤ x6 → F 0 (sU σ 23 15 x4)) ∧ (¬ x4 ≤ x6 → (vp_in (((60 * x1) + x3) + x6) 240 ∧ (vp_in x6 20 ∧ (ME g d M_X5_isHead [vR 23, vI ((sU σ 33 x6.toNatClampNeg (σ 26 ((((60 * x1) + x3) + x6).toNatClampNeg))) 33 x6.toNatClampNeg)] (sU σ 33 x6.toNatClampNeg (σ 26 ((((60 * x1) + x3) + x6).toNatClampNeg))) (qI (fun r2 σ3 => ((¬ r2 = 0 → VM g (d + 1) M_X5_layVisits (qI F) 36 [(0, vR 23), (1, vI x1), (2, vI x2), (3, vI x3), (4, vI x4), (5, vI x5), (6, vI (x6 + 1))] [] σ3) ∧ (r2 = 0 → F (-1) σ3)))))))))) : VM g (d + 1) M_X5_layVisits (qI F) 36 [(0, vR 23), (1, vI x1), (2, vI x2), (3, vI x3), (4, vI x4), (5, vI x5), (6, vI x6)] [] σ := by
  refine VE_iload 6 dX5_layVisits_36 (k := ?_)
  refine VE_iload 4 dX5_layVisits_38 (k := ?_)
  refine VE_icmp_ge 86 dX5_layVisits_40 (fun c1 => ?_) (fun c1 => ?_)
  · refine VE_aload_n 0 dX5_layVisits_86 (k := ?_)
    refine VE_iload 4 dX5_layVisits_87 (k := ?_)
    refine VE_put dX5_layVisits_89 fl_X5_113 ?_
    refine VE_iconst 0 dX5_layVisits_92 (k := ?_)
    exact VM_iret dX5_layVisits_93 (h.1 c1)
  · refine VE_aload_n 0 dX5_layVisits_43 (k := ?_)
    refine VE_getR 33 dX5_layVisits_44 fl_X5_37 ?_
    refine VE_iload 6 dX5_layVisits_47 (k := ?_)
    refine VE_aload_n 0 dX5_layVisits_49 (k := ?_)
    refine VE_getR 26 dX5_layVisits_50 fl_X5_16 ?_
    refine VE_bipush 60 dX5_layVisits_53 (k := ?_)
    refine VE_iload_n 1 dX5_layVisits_55 (k := ?_)
    refine VE_imul dX5_layVisits_56 ?_
    refine VE_iload_n 3 dX5_layVisits_57 (k := ?_)
    refine VE_iadd dX5_layVisits_58 ?_
    refine VE_iload 6 dX5_layVisits_59 (k := ?_)
    refine VE_iadd dX5_layVisits_61 ?_
    refine VE_iald dX5_layVisits_62 (h.2 c1).1 ?_
    refine VE_iast dX5_layVisits_63 (h.2 c1).2.1 ?_
    refine VE_aload_n 0 dX5_layVisits_64 (k := ?_)
    refine VE_aload_n 0 dX5_layVisits_65 (k := ?_)
    refine VE_getR 33 dX5_layVisits_66 fl_X5_37 ?_
    refine VE_iload 6 dX5_layVisits_69 (k := ?_)
    refine VE_iald dX5_layVisits_71 (h.2 c1).2.1 ?_
    refine VE_cVi [vI ((sU σ 33 x6.toNatClampNeg (σ 26 ((((60 * x1) + x3) + x6).toNatClampNeg))) 33 x6.toNatClampNeg)] dX5_layVisits_72 ml_X5_100 (h.2 c1).2.2 (fun r2 σ3 h4 => ?_) (rok_D d)
    refine VE_if_ne 80 dX5_layVisits_75 (fun c5 => ?_) (fun c5 => ?_)
    · refine VE_iinc 6 (x6 + 1) (ls' := [(6, vI (x6 + 1)), (0, vR 23), (1, vI x1), (2, vI x2), (3, vI x3), (4, vI x4), (5, vI x5)]) dX5_layVisits_80 ?_
      refine VE_goto 36 dX5_layVisits_83 ?_
      exact VE_sub [1, 2, 3, 4, 5, 6, 0] rfl (h4.1 c5)
    · refine VE_iconst (-1) dX5_layVisits_78 (k := ?_)
      exact VM_iret dX5_layVisits_79 (h4.2 c5)
theorem dX5_isRow_0 : decode cX5_isRow 0 = .ok (.iload_n 0, 1) := by decide +kernel
theorem dX5_isRow_1 : decode cX5_isRow 1 = .ok (.invokestatic 69, 3) := by decide +kernel
theorem dX5_isRow_4 : decode cX5_isRow 4 = .ok (.ifCond .eq 17, 3) := by decide +kernel
theorem dX5_isRow_7 : decode cX5_isRow 7 = .ok (.iload_n 1, 1) := by decide +kernel
theorem dX5_isRow_8 : decode cX5_isRow 8 = .ok (.iconst 0, 1) := by decide +kernel
theorem dX5_isRow_9 : decode cX5_isRow 9 = .ok (.bipush 20, 2) := by decide +kernel
theorem dX5_isRow_11 : decode cX5_isRow 11 = .ok (.invokestatic 55, 3) := by decide +kernel
theorem dX5_isRow_14 : decode cX5_isRow 14 = .ok (.ifCond .eq 7, 3) := by decide +kernel
theorem dX5_isRow_17 : decode cX5_isRow 17 = .ok (.iconst 1, 1) := by decide +kernel
theorem dX5_isRow_18 : decode cX5_isRow 18 = .ok (.goto 4, 3) := by decide +kernel
theorem dX5_isRow_21 : decode cX5_isRow 21 = .ok (.iconst 0, 1) := by decide +kernel
theorem dX5_isRow_22 : decode cX5_isRow 22 = .ok (.ireturn, 1) := by decide +kernel
set_option maxRecDepth 20000 in
theorem S_X5_isRow_0 {g : GG} {d : Nat} {F : Int32 → St → Prop} (a1 : Int32) (a2 : Int32) (σ : St) (h : (ME g d M_X5_isSort [vI a1] σ (qI (fun r1 σ2 => ((r1 = 0 → F 0 σ2) ∧ (¬ r1 = 0 → (ME g d M_X5_within [vI a2, vI 0, vI 20] σ2 (qI (fun r5 σ6 => ((r5 = 0 → F 0 σ6) ∧ (¬ r5 = 0 → F 1 σ6))))))))))) : VM g (d + 1) M_X5_isRow (qI F) 0 [(0, vI a1), (1, vI a2)] [] σ := by
  refine VE_iload_n 0 dX5_isRow_0 (k := ?_)
  refine VE_cSi [vI a1] dX5_isRow_1 ml_X5_69 h (fun r1 σ2 h3 => ?_) (rok_D d)
  refine VE_if_eq 21 dX5_isRow_4 (fun c4 => ?_) (fun c4 => ?_)
  · refine VE_iconst 0 dX5_isRow_21 (k := ?_)
    exact VM_zret dX5_isRow_22 (h3.1 c4) (by decide)
  · refine VE_iload_n 1 dX5_isRow_7 (k := ?_)
    refine VE_iconst 0 dX5_isRow_8 (k := ?_)
    refine VE_bipush 20 dX5_isRow_9 (k := ?_)
    refine VE_cSi [vI a2, vI 0, vI 20] dX5_isRow_11 ml_X5_55 (h3.2 c4) (fun r5 σ6 h7 => ?_) (rok_D d)
    refine VE_if_eq 21 dX5_isRow_14 (fun c8 => ?_) (fun c8 => ?_)
    · refine VE_iconst 0 dX5_isRow_21 (k := ?_)
      exact VM_zret dX5_isRow_22 (h7.1 c8) (by decide)
    · refine VE_iconst 1 dX5_isRow_17 (k := ?_)
      refine VE_goto 22 dX5_isRow_18 ?_
      exact VM_zret dX5_isRow_22 (h7.2 c8) (by decide)
theorem dX5_go_0 : decode cX5_go 0 = .ok (.aload_n 0, 1) := by decide +kernel
theorem dX5_go_1 : decode cX5_go 1 = .ok (.invokevirtual 116, 3) := by decide +kernel
theorem dX5_go_4 : decode cX5_go 4 = .ok (.iconst 0, 1) := by decide +kernel
theorem dX5_go_5 : decode cX5_go 5 = .ok (.istore_n 1, 1) := by decide +kernel
theorem dX5_go_6 : decode cX5_go 6 = .ok (.iload_n 1, 1) := by decide +kernel
theorem dX5_go_7 : decode cX5_go 7 = .ok (.aload_n 0, 1) := by decide +kernel
theorem dX5_go_8 : decode cX5_go 8 = .ok (.getfield 113, 3) := by decide +kernel
theorem dX5_go_11 : decode cX5_go 11 = .ok (.if_icmp .ge 24, 3) := by decide +kernel
theorem dX5_go_14 : decode cX5_go 14 = .ok (.aload_n 0, 1) := by decide +kernel
theorem dX5_go_15 : decode cX5_go 15 = .ok (.aload_n 0, 1) := by decide +kernel
theorem dX5_go_16 : decode cX5_go 16 = .ok (.getfield 37, 3) := by decide +kernel
theorem dX5_go_19 : decode cX5_go 19 = .ok (.iload_n 1, 1) := by decide +kernel
theorem dX5_go_20 : decode cX5_go 20 = .ok (.iaload, 1) := by decide +kernel
theorem dX5_go_21 : decode cX5_go 21 = .ok (.invokevirtual 119, 3) := by decide +kernel
theorem dX5_go_24 : decode cX5_go 24 = .ok (.ifCond .ne 5, 3) := by decide +kernel
theorem dX5_go_27 : decode cX5_go 27 = .ok (.iload_n 1, 1) := by decide +kernel
theorem dX5_go_28 : decode cX5_go 28 = .ok (.ireturn, 1) := by decide +kernel
theorem dX5_go_29 : decode cX5_go 29 = .ok (.iinc 1 1, 3) := by decide +kernel
theorem dX5_go_32 : decode cX5_go 32 = .ok (.goto (-26), 3) := by decide +kernel
theorem dX5_go_35 : decode cX5_go 35 = .ok (.bipush (-9), 2) := by decide +kernel
theorem dX5_go_37 : decode cX5_go 37 = .ok (.ireturn, 1) := by decide +kernel
set_option maxRecDepth 20000 in
theorem S_X5_go_0 {g : GG} {d : Nat} {F : Int32 → St → Prop}  (σ : St) (h : (ME g d M_X5_begin [vR 23] σ (qV (fun σ2 => VM g (d + 1) M_X5_go (qI F) 6 [(0, vR 23), (1, vI 0)] [] σ2)))) : VM g (d + 1) M_X5_go (qI F) 0 [(0, vR 23)] [] σ := by
  refine VE_aload_n 0 dX5_go_0 (k := ?_)
  refine VE_cVv [] dX5_go_1 ml_X5_116 h (fun σ2 h3 => ?_) (rok_D d)
  refine VE_iconst 0 dX5_go_4 (k := ?_)
  refine VE_istore_n (ls' := [(1, vI 0), (0, vR 23)]) dX5_go_5 ?_
  exact VE_sub [1, 0] rfl h3
set_option maxRecDepth 20000 in
theorem S_X5_go_6 {g : GG} {d : Nat} {F : Int32 → St → Prop} (x1 : Int32) (σ : St) (h : (((σ 23 15) ≤ x1 → F (-9) σ) ∧ (¬ (σ 23 15) ≤ x1 → (vp_in x1 20 ∧ (ME g d M_X5_visit [vR 23, vI (σ 33 x1.toNatClampNeg)] σ (qI (fun r2 σ3 => ((¬ r2 = 0 → VM g (d + 1) M_X5_go (qI F) 6 [(0, vR 23), (1, vI (x1 + 1))] [] σ3) ∧ (r2 = 0 → F x1 σ3))))))))) : VM g (d + 1) M_X5_go (qI F) 6 [(0, vR 23), (1, vI x1)] [] σ := by
  refine VE_iload_n 1 dX5_go_6 (k := ?_)
  refine VE_aload_n 0 dX5_go_7 (k := ?_)
  refine VE_getI dX5_go_8 fl_X5_113 ?_
  refine VE_icmp_ge 35 dX5_go_11 (fun c1 => ?_) (fun c1 => ?_)
  · refine VE_bipush (-9) dX5_go_35 (k := ?_)
    exact VM_iret dX5_go_37 (h.1 c1)
  · refine VE_aload_n 0 dX5_go_14 (k := ?_)
    refine VE_aload_n 0 dX5_go_15 (k := ?_)
    refine VE_getR 33 dX5_go_16 fl_X5_37 ?_
    refine VE_iload_n 1 dX5_go_19 (k := ?_)
    refine VE_iald dX5_go_20 (h.2 c1).1 ?_
    refine VE_cVi [vI (σ 33 x1.toNatClampNeg)] dX5_go_21 ml_X5_119 (h.2 c1).2 (fun r2 σ3 h4 => ?_) (rok_D d)
    refine VE_if_ne 29 dX5_go_24 (fun c5 => ?_) (fun c5 => ?_)
    · refine VE_iinc 1 (x1 + 1) (ls' := [(1, vI (x1 + 1)), (0, vR 23)]) dX5_go_29 ?_
      refine VE_goto 6 dX5_go_32 ?_
      exact VE_sub [1, 0] rfl (h4.1 c5)
    · refine VE_iload_n 1 dX5_go_27 (k := ?_)
      exact VM_iret dX5_go_28 (h4.2 c5)
theorem dX5_isWhat_0 : decode cX5_isWhat 0 = .ok (.iload_n 0, 1) := by decide +kernel
theorem dX5_isWhat_1 : decode cX5_isWhat 1 = .ok (.iconst 0, 1) := by decide +kernel
theorem dX5_isWhat_2 : decode cX5_isWhat 2 = .ok (.iconst 4, 1) := by decide +kernel
theorem dX5_isWhat_3 : decode cX5_isWhat 3 = .ok (.invokestatic 55, 3) := by decide +kernel
theorem dX5_isWhat_6 : decode cX5_isWhat 6 = .ok (.ifCond .ne 36, 3) := by decide +kernel
theorem dX5_isWhat_9 : decode cX5_isWhat 9 = .ok (.iload_n 0, 1) := by decide +kernel
theorem dX5_isWhat_10 : decode cX5_isWhat 10 = .ok (.bipush 10, 2) := by decide +kernel
theorem dX5_isWhat_12 : decode cX5_isWhat 12 = .ok (.bipush 14, 2) := by decide +kernel
theorem dX5_isWhat_14 : decode cX5_isWhat 14 = .ok (.invokestatic 55, 3) := by decide +kernel
theorem dX5_isWhat_17 : decode cX5_isWhat 17 = .ok (.ifCond .ne 25, 3) := by decide +kernel
theorem dX5_isWhat_20 : decode cX5_isWhat 20 = .ok (.iload_n 0, 1) := by decide +kernel
theorem dX5_isWhat_21 : decode cX5_isWhat 21 = .ok (.bipush 20, 2) := by decide +kernel
theorem dX5_isWhat_23 : decode cX5_isWhat 23 = .ok (.bipush 24, 2) := by decide +kernel
theorem dX5_isWhat_25 : decode cX5_isWhat 25 = .ok (.invokestatic 55, 3) := by decide +kernel
theorem dX5_isWhat_28 : decode cX5_isWhat 28 = .ok (.ifCond .ne 14, 3) := by decide +kernel
theorem dX5_isWhat_31 : decode cX5_isWhat 31 = .ok (.iload_n 0, 1) := by decide +kernel
theorem dX5_isWhat_32 : decode cX5_isWhat 32 = .ok (.bipush 30, 2) := by decide +kernel
theorem dX5_isWhat_34 : decode cX5_isWhat 34 = .ok (.bipush 34, 2) := by decide +kernel
theorem dX5_isWhat_36 : decode cX5_isWhat 36 = .ok (.invokestatic 55, 3) := by decide +kernel
theorem dX5_isWhat_39 : decode cX5_isWhat 39 = .ok (.ifCond .eq 7, 3) := by decide +kernel
theorem dX5_isWhat_42 : decode cX5_isWhat 42 = .ok (.iconst 1, 1) := by decide +kernel
theorem dX5_isWhat_43 : decode cX5_isWhat 43 = .ok (.goto 4, 3) := by decide +kernel
theorem dX5_isWhat_46 : decode cX5_isWhat 46 = .ok (.iconst 0, 1) := by decide +kernel
theorem dX5_isWhat_47 : decode cX5_isWhat 47 = .ok (.ireturn, 1) := by decide +kernel
set_option maxRecDepth 20000 in
theorem S_X5_isWhat_0 {g : GG} {d : Nat} {F : Int32 → St → Prop} (a1 : Int32) (σ : St) (h : (ME g d M_X5_within [vI a1, vI 0, vI 4] σ (qI (fun r1 σ2 => ((¬ r1 = 0 → F 1 σ2) ∧ (r1 = 0 → (ME g d M_X5_within [vI a1, vI 10, vI 14] σ2 (qI (fun r5 σ6 => ((¬ r5 = 0 → F 1 σ6) ∧ (r5 = 0 → (ME g d M_X5_within [vI a1, vI 20, vI 24] σ6 (qI (fun r9 σ10 => ((¬ r9 = 0 → F 1 σ10) ∧ (r9 = 0 → (ME g d M_X5_within [vI a1, vI 30, vI 34] σ10 (qI (fun r13 σ14 => ((r13 = 0 → F 0 σ14) ∧ (¬ r13 = 0 → F 1 σ14))))))))))))))))))))) : VM g (d + 1) M_X5_isWhat (qI F) 0 [(0, vI a1)] [] σ := by
  refine VE_iload_n 0 dX5_isWhat_0 (k := ?_)
  refine VE_iconst 0 dX5_isWhat_1 (k := ?_)
  refine VE_iconst 4 dX5_isWhat_2 (k := ?_)
  refine VE_cSi [vI a1, vI 0, vI 4] dX5_isWhat_3 ml_X5_55 h (fun r1 σ2 h3 => ?_) (rok_D d)
  refine VE_if_ne 42 dX5_isWhat_6 (fun c4 => ?_) (fun c4 => ?_)
  · refine VE_iconst 1 dX5_isWhat_42 (k := ?_)
    refine VE_goto 47 dX5_isWhat_43 ?_
    exact VM_zret dX5_isWhat_47 (h3.1 c4) (by decide)
  · refine VE_iload_n 0 dX5_isWhat_9 (k := ?_)
    refine VE_bipush 10 dX5_isWhat_10 (k := ?_)
    refine VE_bipush 14 dX5_isWhat_12 (k := ?_)
    refine VE_cSi [vI a1, vI 10, vI 14] dX5_isWhat_14 ml_X5_55 (h3.2 c4) (fun r5 σ6 h7 => ?_) (rok_D d)
    refine VE_if_ne 42 dX5_isWhat_17 (fun c8 => ?_) (fun c8 => ?_)
    · refine VE_iconst 1 dX5_isWhat_42 (k := ?_)
      refine VE_goto 47 dX5_isWhat_43 ?_
      exact VM_zret dX5_isWhat_47 (h7.1 c8) (by decide)
    · refine VE_iload_n 0 dX5_isWhat_20 (k := ?_)
      refine VE_bipush 20 dX5_isWhat_21 (k := ?_)
      refine VE_bipush 24 dX5_isWhat_23 (k := ?_)
      refine VE_cSi [vI a1, vI 20, vI 24] dX5_isWhat_25 ml_X5_55 (h7.2 c8) (fun r9 σ10 h11 => ?_) (rok_D d)
      refine VE_if_ne 42 dX5_isWhat_28 (fun c12 => ?_) (fun c12 => ?_)
      · refine VE_iconst 1 dX5_isWhat_42 (k := ?_)
        refine VE_goto 47 dX5_isWhat_43 ?_
        exact VM_zret dX5_isWhat_47 (h11.1 c12) (by decide)
      · refine VE_iload_n 0 dX5_isWhat_31 (k := ?_)
        refine VE_bipush 30 dX5_isWhat_32 (k := ?_)
        refine VE_bipush 34 dX5_isWhat_34 (k := ?_)
        refine VE_cSi [vI a1, vI 30, vI 34] dX5_isWhat_36 ml_X5_55 (h11.2 c12) (fun r13 σ14 h15 => ?_) (rok_D d)
        refine VE_if_eq 46 dX5_isWhat_39 (fun c16 => ?_) (fun c16 => ?_)
        · refine VE_iconst 0 dX5_isWhat_46 (k := ?_)
          exact VM_zret dX5_isWhat_47 (h15.1 c16) (by decide)
        · refine VE_iconst 1 dX5_isWhat_42 (k := ?_)
          refine VE_goto 47 dX5_isWhat_43 ?_
          exact VM_zret dX5_isWhat_47 (h15.2 c16) (by decide)
theorem dX5_visits_0 : decode cX5_visits 0 = .ok (.aload_n 0, 1) := by decide +kernel
theorem dX5_visits_1 : decode cX5_visits 1 = .ok (.iconst 0, 1) := by decide +kernel
theorem dX5_visits_2 : decode cX5_visits 2 = .ok (.putfield 49, 3) := by decide +kernel
theorem dX5_visits_5 : decode cX5_visits 5 = .ok (.iload_n 1, 1) := by decide +kernel
theorem dX5_visits_6 : decode cX5_visits 6 = .ok (.invokestatic 65, 3) := by decide +kernel
theorem dX5_visits_9 : decode cX5_visits 9 = .ok (.ifCond .ne 5, 3) := by decide +kernel
theorem dX5_visits_12 : decode cX5_visits 12 = .ok (.iconst (-1), 1) := by decide +kernel
theorem dX5_visits_13 : decode cX5_visits 13 = .ok (.ireturn, 1) := by decide +kernel
theorem dX5_visits_14 : decode cX5_visits 14 = .ok (.iload_n 2, 1) := by decide +kernel
theorem dX5_visits_15 : decode cX5_visits 15 = .ok (.iload 4, 2) := by decide +kernel
theorem dX5_visits_17 : decode cX5_visits 17 = .ok (.invokestatic 122, 3) := by decide +kernel
theorem dX5_visits_20 : decode cX5_visits 20 = .ok (.ifCond .eq 11, 3) := by decide +kernel
theorem dX5_visits_23 : decode cX5_visits 23 = .ok (.iload 5, 2) := by decide +kernel
theorem dX5_visits_25 : decode cX5_visits 25 = .ok (.invokestatic 125, 3) := by decide +kernel
theorem dX5_visits_28 : decode cX5_visits 28 = .ok (.ifCond .ne 6, 3) := by decide +kernel
theorem dX5_visits_31 : decode cX5_visits 31 = .ok (.bipush (-2), 2) := by decide +kernel
theorem dX5_visits_33 : decode cX5_visits 33 = .ok (.ireturn, 1) := by decide +kernel
theorem dX5_visits_34 : decode cX5_visits 34 = .ok (.aload_n 0, 1) := by decide +kernel
theorem dX5_visits_35 : decode cX5_visits 35 = .ok (.iload_n 1, 1) := by decide +kernel
theorem dX5_visits_36 : decode cX5_visits 36 = .ok (.iload_n 2, 1) := by decide +kernel
theorem dX5_visits_37 : decode cX5_visits 37 = .ok (.iload_n 3, 1) := by decide +kernel
theorem dX5_visits_38 : decode cX5_visits 38 = .ok (.iload 4, 2) := by decide +kernel
theorem dX5_visits_40 : decode cX5_visits 40 = .ok (.invokevirtual 128, 3) := by decide +kernel
theorem dX5_visits_43 : decode cX5_visits 43 = .ok (.istore 6, 2) := by decide +kernel
theorem dX5_visits_45 : decode cX5_visits 45 = .ok (.iload 6, 2) := by decide +kernel
theorem dX5_visits_47 : decode cX5_visits 47 = .ok (.ifCond .eq 6, 3) := by decide +kernel
theorem dX5_visits_50 : decode cX5_visits 50 = .ok (.iload 6, 2) := by decide +kernel
theorem dX5_visits_52 : decode cX5_visits 52 = .ok (.ireturn, 1) := by decide +kernel
theorem dX5_visits_53 : decode cX5_visits 53 = .ok (.aload_n 0, 1) := by decide +kernel
theorem dX5_visits_54 : decode cX5_visits 54 = .ok (.invokevirtual 131, 3) := by decide +kernel
theorem dX5_visits_57 : decode cX5_visits 57 = .ok (.istore 7, 2) := by decide +kernel
theorem dX5_visits_59 : decode cX5_visits 59 = .ok (.iload 5, 2) := by decide +kernel
theorem dX5_visits_61 : decode cX5_visits 61 = .ok (.iconst 1, 1) := by decide +kernel
theorem dX5_visits_62 : decode cX5_visits 62 = .ok (.if_icmp .ne 6, 3) := by decide +kernel
theorem dX5_visits_65 : decode cX5_visits 65 = .ok (.iload 7, 2) := by decide +kernel
theorem dX5_visits_67 : decode cX5_visits 67 = .ok (.ireturn, 1) := by decide +kernel
theorem dX5_visits_68 : decode cX5_visits 68 = .ok (.iload 7, 2) := by decide +kernel
theorem dX5_visits_70 : decode cX5_visits 70 = .ok (.bipush (-9), 2) := by decide +kernel
theorem dX5_visits_72 : decode cX5_visits 72 = .ok (.if_icmp .ne 12, 3) := by decide +kernel
theorem dX5_visits_75 : decode cX5_visits 75 = .ok (.aload_n 0, 1) := by decide +kernel
theorem dX5_visits_76 : decode cX5_visits 76 = .ok (.iload 5, 2) := by decide +kernel
theorem dX5_visits_78 : decode cX5_visits 78 = .ok (.invokevirtual 135, 3) := by decide +kernel
theorem dX5_visits_81 : decode cX5_visits 81 = .ok (.goto 8, 3) := by decide +kernel
theorem dX5_visits_84 : decode cX5_visits 84 = .ok (.bipush (-100), 2) := by decide +kernel
theorem dX5_visits_86 : decode cX5_visits 86 = .ok (.iload 7, 2) := by decide +kernel
theorem dX5_visits_88 : decode cX5_visits 88 = .ok (.isub, 1) := by decide +kernel
theorem dX5_visits_89 : decode cX5_visits 89 = .ok (.ireturn, 1) := by decide +kernel
set_option maxRecDepth 20000 in
theorem S_X5_visits_0 {g : GG} {d : Nat} {F : Int32 → St → Prop} (a1 : Int32) (a2 : Int32) (a3 : Int32) (a4 : Int32) (a5 : Int32) (σ : St) (h : (ME g d M_X5_isSheet [vI a1] (sU σ 23 0 0) (qI (fun r1 σ2 => ((¬ r1 = 0 → (ME g d M_X5_isRow [vI a2, vI a4] σ2 (qI (fun r5 σ6 => ((r5 = 0 → F (-2) σ6) ∧ (¬ r5 = 0 → (ME g d M_X5_isWhat [vI a5] σ6 (qI (fun r9 σ10 => ((¬ r9 = 0 → (ME g d M_X5_layVisits [vR 23, vI a1, vI a2, vI a3, vI a4] σ10 (qI (fun r13 σ14 => ((r13 = 0 → (ME g d M_X5_go [vR 23] σ14 (qI (fun r17 σ18 => ((¬ a5 = 1 → ((¬ r17 = (-9) → F ((-100) - r17) σ18) ∧ (r17 = (-9) → (ME g d M_X5_tellVisits [vR 23, vI a5] σ18 (qI (fun r22 σ23 => F r22 σ23)))))) ∧ (a5 = 1 → F r17 σ18)))))) ∧ (¬ r13 = 0 → F r13 σ14)))))) ∧ (r9 = 0 → F (-2) σ10))))))))))) ∧ (r1 = 0 → F (-1) σ2)))))) : VM g (d + 1) M_X5_visits (qI F) 0 [(0, vR 23), (1, vI a1), (2, vI a2), (3, vI a3), (4, vI a4), (5, vI a5)] [] σ := by
  refine VE_aload_n 0 dX5_visits_0 (k := ?_)
  refine VE_iconst 0 dX5_visits_1 (k := ?_)
  refine VE_put dX5_visits_2 fl_X5_49 ?_
  refine VE_iload_n 1 dX5_visits_5 (k := ?_)
  refine VE_cSi [vI a1] dX5_visits_6 ml_X5_65 h (fun r1 σ2 h3 => ?_) (rok_D d)
  refine VE_if_ne 14 dX5_visits_9 (fun c4 => ?_) (fun c4 => ?_)
  · refine VE_iload_n 2 dX5_visits_14 (k := ?_)
    refine VE_iload 4 dX5_visits_15 (k := ?_)
    refine VE_cSi [vI a2, vI a4] dX5_visits_17 ml_X5_122 (h3.1 c4) (fun r5 σ6 h7 => ?_) (rok_D d)
    refine VE_if_eq 31 dX5_visits_20 (fun c8 => ?_) (fun c8 => ?_)
    · refine VE_bipush (-2) dX5_visits_31 (k := ?_)
      exact VM_iret dX5_visits_33 (h7.1 c8)
    · refine VE_iload 5 dX5_visits_23 (k := ?_)
      refine VE_cSi [vI a5] dX5_visits_25 ml_X5_125 (h7.2 c8) (fun r9 σ10 h11 => ?_) (rok_D d)
      refine VE_if_ne 34 dX5_visits_28 (fun c12 => ?_) (fun c12 => ?_)
      · refine VE_aload_n 0 dX5_visits_34 (k := ?_)
        refine VE_iload_n 1 dX5_visits_35 (k := ?_)
        refine VE_iload_n 2 dX5_visits_36 (k := ?_)
        refine VE_iload_n 3 dX5_visits_37 (k := ?_)
        refine VE_iload 4 dX5_visits_38 (k := ?_)
        refine VE_cVi [vI a1, vI a2, vI a3, vI a4] dX5_visits_40 ml_X5_128 (h11.1 c12) (fun r13 σ14 h15 => ?_) (rok_D d)
        refine VE_istore (ls' := [(6, vI r13), (0, vR 23), (1, vI a1), (2, vI a2), (3, vI a3), (4, vI a4), (5, vI a5)]) dX5_visits_43 ?_
        refine VE_iload 0 dX5_visits_45 (k := ?_)
        refine VE_if_eq 53 dX5_visits_47 (fun c16 => ?_) (fun c16 => ?_)
        · refine VE_aload_n 1 dX5_visits_53 (k := ?_)
          refine VE_cVi [] dX5_visits_54 ml_X5_131 (h15.1 c16) (fun r17 σ18 h19 => ?_) (rok_D d)
          refine VE_istore (ls' := [(7, vI r17), (6, vI r13), (0, vR 23), (1, vI a1), (2, vI a2), (3, vI a3), (4, vI a4), (5, vI a5)]) dX5_visits_57 ?_
          refine VE_iload 7 dX5_visits_59 (k := ?_)
          refine VE_iconst 1 dX5_visits_61 (k := ?_)
          refine VE_icmp_ne 68 dX5_visits_62 (fun c20 => ?_) (fun c20 => ?_)
          · refine VE_iload 0 dX5_visits_68 (k := ?_)
            refine VE_bipush (-9) dX5_visits_70 (k := ?_)
            refine VE_icmp_ne 84 dX5_visits_72 (fun c21 => ?_) (fun c21 => ?_)
            · refine VE_bipush (-100) dX5_visits_84 (k := ?_)
              refine VE_iload 0 dX5_visits_86 (k := ?_)
              refine VE_isub dX5_visits_88 ?_
              exact VM_iret dX5_visits_89 ((h19.1 c20).1 c21)
            · refine VE_aload_n 2 dX5_visits_75 (k := ?_)
              refine VE_iload 7 dX5_visits_76 (k := ?_)
              refine VE_cVi [vI a5] dX5_visits_78 ml_X5_135 ((h19.1 c20).2 c21) (fun r22 σ23 h24 => ?_) (rok_D d)
              refine VE_goto 89 dX5_visits_81 ?_
              exact VM_iret dX5_visits_89 h24
          · refine VE_iload 0 dX5_visits_65 (k := ?_)
            exact VM_iret dX5_visits_67 (h19.2 c20)
        · refine VE_iload 0 dX5_visits_50 (k := ?_)
          exact VM_iret dX5_visits_52 (h15.2 c16)
      · refine VE_bipush (-2) dX5_visits_31 (k := ?_)
        exact VM_iret dX5_visits_33 (h11.2 c12)
  · refine VE_iconst (-1) dX5_visits_12 (k := ?_)
    exact VM_iret dX5_visits_13 (h3.2 c4)
theorem dX5_tellVisits_0 : decode cX5_tellVisits 0 = .ok (.iload_n 1, 1) := by decide +kernel
theorem dX5_tellVisits_1 : decode cX5_tellVisits 1 = .ok (.tableswitch 55 0 4 #[35, 55, 40, 45, 50], 35) := by decide +kernel
theorem dX5_tellVisits_36 : decode cX5_tellVisits 36 = .ok (.aload_n 0, 1) := by decide +kernel
theorem dX5_tellVisits_37 : decode cX5_tellVisits 37 = .ok (.invokevirtual 138, 3) := by decide +kernel
theorem dX5_tellVisits_40 : decode cX5_tellVisits 40 = .ok (.ireturn, 1) := by decide +kernel
theorem dX5_tellVisits_41 : decode cX5_tellVisits 41 = .ok (.aload_n 0, 1) := by decide +kernel
theorem dX5_tellVisits_42 : decode cX5_tellVisits 42 = .ok (.invokevirtual 141, 3) := by decide +kernel
theorem dX5_tellVisits_45 : decode cX5_tellVisits 45 = .ok (.ireturn, 1) := by decide +kernel
theorem dX5_tellVisits_46 : decode cX5_tellVisits 46 = .ok (.aload_n 0, 1) := by decide +kernel
theorem dX5_tellVisits_47 : decode cX5_tellVisits 47 = .ok (.getfield 106, 3) := by decide +kernel
theorem dX5_tellVisits_50 : decode cX5_tellVisits 50 = .ok (.ireturn, 1) := by decide +kernel
theorem dX5_tellVisits_51 : decode cX5_tellVisits 51 = .ok (.aload_n 0, 1) := by decide +kernel
theorem dX5_tellVisits_52 : decode cX5_tellVisits 52 = .ok (.invokevirtual 144, 3) := by decide +kernel
theorem dX5_tellVisits_55 : decode cX5_tellVisits 55 = .ok (.ireturn, 1) := by decide +kernel
theorem dX5_tellVisits_56 : decode cX5_tellVisits 56 = .ok (.iload_n 1, 1) := by decide +kernel
theorem dX5_tellVisits_57 : decode cX5_tellVisits 57 = .ok (.bipush 10, 2) := by decide +kernel
theorem dX5_tellVisits_59 : decode cX5_tellVisits 59 = .ok (.irem, 1) := by decide +kernel
theorem dX5_tellVisits_60 : decode cX5_tellVisits 60 = .ok (.istore_n 2, 1) := by decide +kernel
theorem dX5_tellVisits_61 : decode cX5_tellVisits 61 = .ok (.aload_n 0, 1) := by decide +kernel
theorem dX5_tellVisits_62 : decode cX5_tellVisits 62 = .ok (.iload_n 2, 1) := by decide +kernel
theorem dX5_tellVisits_63 : decode cX5_tellVisits 63 = .ok (.invokevirtual 100, 3) := by decide +kernel
theorem dX5_tellVisits_66 : decode cX5_tellVisits 66 = .ok (.ifCond .ne 6, 3) := by decide +kernel
theorem dX5_tellVisits_69 : decode cX5_tellVisits 69 = .ok (.bipush (-9), 2) := by decide +kernel
theorem dX5_tellVisits_71 : decode cX5_tellVisits 71 = .ok (.ireturn, 1) := by decide +kernel
theorem dX5_tellVisits_72 : decode cX5_tellVisits 72 = .ok (.iload_n 1, 1) := by decide +kernel
theorem dX5_tellVisits_73 : decode cX5_tellVisits 73 = .ok (.bipush 20, 2) := by decide +kernel
theorem dX5_tellVisits_75 : decode cX5_tellVisits 75 = .ok (.if_icmp .ge 12, 3) := by decide +kernel
theorem dX5_tellVisits_78 : decode cX5_tellVisits 78 = .ok (.aload_n 0, 1) := by decide +kernel
theorem dX5_tellVisits_79 : decode cX5_tellVisits 79 = .ok (.getfield 31, 3) := by decide +kernel
theorem dX5_tellVisits_82 : decode cX5_tellVisits 82 = .ok (.iload_n 2, 1) := by decide +kernel
theorem dX5_tellVisits_83 : decode cX5_tellVisits 83 = .ok (.iaload, 1) := by decide +kernel
theorem dX5_tellVisits_84 : decode cX5_tellVisits 84 = .ok (.goto 23, 3) := by decide +kernel
theorem dX5_tellVisits_87 : decode cX5_tellVisits 87 = .ok (.iload_n 1, 1) := by decide +kernel
theorem dX5_tellVisits_88 : decode cX5_tellVisits 88 = .ok (.bipush 30, 2) := by decide +kernel
theorem dX5_tellVisits_90 : decode cX5_tellVisits 90 = .ok (.if_icmp .ge 12, 3) := by decide +kernel
theorem dX5_tellVisits_93 : decode cX5_tellVisits 93 = .ok (.aload_n 0, 1) := by decide +kernel
theorem dX5_tellVisits_94 : decode cX5_tellVisits 94 = .ok (.getfield 34, 3) := by decide +kernel
theorem dX5_tellVisits_97 : decode cX5_tellVisits 97 = .ok (.iload_n 2, 1) := by decide +kernel
theorem dX5_tellVisits_98 : decode cX5_tellVisits 98 = .ok (.iaload, 1) := by decide +kernel
theorem dX5_tellVisits_99 : decode cX5_tellVisits 99 = .ok (.goto 8, 3) := by decide +kernel
theorem dX5_tellVisits_102 : decode cX5_tellVisits 102 = .ok (.aload_n 0, 1) := by decide +kernel
theorem dX5_tellVisits_103 : decode cX5_tellVisits 103 = .ok (.iload_n 2, 1) := by decide +kernel
theorem dX5_tellVisits_104 : decode cX5_tellVisits 104 = .ok (.invokevirtual 147, 3) := by decide +kernel
theorem dX5_tellVisits_107 : decode cX5_tellVisits 107 = .ok (.ireturn, 1) := by decide +kernel
set_option maxRecDepth 20000 in
theorem S_X5_tellVisits_0 {g : GG} {d : Nat} {F : Int32 → St → Prop} (a1 : Int32) (σ : St) (h : ((a1 = 0 → (ME g d M_X5_atHome [vR 23] σ (qI (fun r6 σ7 => F r6 σ7)))) ∧ (¬ a1 = 0 → ((a1 = 1 → (ME g d M_X5_isHead [vR 23, vI (a1 - a1 / 10 * 10)] σ (qI (fun r9 σ10 => ((¬ r9 = 0 → ((20 ≤ a1 → ((30 ≤ a1 → (ME g d M_X5_fooled [vR 23, vI (a1 - a1 / 10 * 10)] σ10 (qI (fun r15 σ16 => F r15 σ16)))) ∧ (¬ 30 ≤ a1 → (vp_in (a1 - a1 / 10 * 10) 5 ∧ F (σ10 32 ((a1 - a1 / 10 * 10).toNatClampNeg)) σ10)))) ∧ (¬ 20 ≤ a1 → (vp_in (a1 - a1 / 10 * 10) 5 ∧ F (σ10 31 ((a1 - a1 / 10 * 10).toNatClampNeg)) σ10)))) ∧ (r9 = 0 → F (-9) σ10)))))) ∧ (¬ a1 = 1 → ((a1 = 2 → (ME g d M_X5_home [vR 23] σ (qI (fun r18 σ19 => F r18 σ19)))) ∧ (¬ a1 = 2 → ((a1 = 3 → F (σ 23 14) σ) ∧ (¬ a1 = 3 → ((a1 = 4 → (ME g d M_X5_worn [vR 23] σ (qI (fun r21 σ22 => F r21 σ22)))) ∧ (¬ a1 = 4 → (ME g d M_X5_isHead [vR 23, vI (a1 - a1 / 10 * 10)] σ (qI (fun r24 σ25 => ((¬ r24 = 0 → ((20 ≤ a1 → ((30 ≤ a1 → (ME g d M_X5_fooled [vR 23, vI (a1 - a1 / 10 * 10)] σ25 (qI (fun r30 σ31 => F r30 σ31)))) ∧ (¬ 30 ≤ a1 → (vp_in (a1 - a1 / 10 * 10) 5 ∧ F (σ25 32 ((a1 - a1 / 10 * 10).toNatClampNeg)) σ25)))) ∧ (¬ 20 ≤ a1 → (vp_in (a1 - a1 / 10 * 10) 5 ∧ F (σ25 31 ((a1 - a1 / 10 * 10).toNatClampNeg)) σ25)))) ∧ (r24 = 0 → F (-9) σ25)))))))))))))))) : VM g (d + 1) M_X5_tellVisits (qI F) 0 [(0, vR 23), (1, vI a1)] [] σ := by
  refine VE_iload_n 1 dX5_tellVisits_0 (k := ?_)
  by_cases c1 : a1 = 0
  · refine VE_tableIn 36 dX5_tellVisits_1 (by rw [c1]; decide) (by rw [c1]; decide) (by rw [c1]; rfl) ?_
    refine VE_aload_n 0 dX5_tellVisits_36 (k := ?_)
    refine VE_cVi [] dX5_tellVisits_37 ml_X5_138 (h.1 c1) (fun r6 σ7 h8 => ?_) (rok_D d)
    exact VM_iret dX5_tellVisits_40 h8
  · by_cases c2 : a1 = 1
    · refine VE_tableIn 56 dX5_tellVisits_1 (by rw [c2]; decide) (by rw [c2]; decide) (by rw [c2]; rfl) ?_
      refine VE_iload_n 1 dX5_tellVisits_56 (k := ?_)
      refine VE_bipush 10 dX5_tellVisits_57 (k := ?_)
      refine VE_irem dX5_tellVisits_59 (by decide) ?_
      refine VE_istore_n (ls' := [(2, vI (a1 - a1 / 10 * 10)), (0, vR 23), (1, vI a1)]) dX5_tellVisits_60 ?_
      refine VE_aload_n 1 dX5_tellVisits_61 (k := ?_)
      refine VE_iload_n 0 dX5_tellVisits_62 (k := ?_)
      refine VE_cVi [vI (a1 - a1 / 10 * 10)] dX5_tellVisits_63 ml_X5_100 ((h.2 c1).1 c2) (fun r9 σ10 h11 => ?_) (rok_D d)
      refine VE_if_ne 72 dX5_tellVisits_66 (fun c12 => ?_) (fun c12 => ?_)
      · refine VE_iload_n 2 dX5_tellVisits_72 (k := ?_)
        refine VE_bipush 20 dX5_tellVisits_73 (k := ?_)
        refine VE_icmp_ge 87 dX5_tellVisits_75 (fun c13 => ?_) (fun c13 => ?_)
        · refine VE_iload_n 2 dX5_tellVisits_87 (k := ?_)
          refine VE_bipush 30 dX5_tellVisits_88 (k := ?_)
          refine VE_icmp_ge 102 dX5_tellVisits_90 (fun c14 => ?_) (fun c14 => ?_)
          · refine VE_aload_n 1 dX5_tellVisits_102 (k := ?_)
            refine VE_iload_n 0 dX5_tellVisits_103 (k := ?_)
            refine VE_cVi [vI (a1 - a1 / 10 * 10)] dX5_tellVisits_104 ml_X5_147 (((h11.1 c12).1 c13).1 c14) (fun r15 σ16 h17 => ?_) (rok_D d)
            exact VM_iret dX5_tellVisits_107 h17
          · refine VE_aload_n 1 dX5_tellVisits_93 (k := ?_)
            refine VE_getR 32 dX5_tellVisits_94 fl_X5_34 ?_
            refine VE_iload_n 0 dX5_tellVisits_97 (k := ?_)
            refine VE_iald dX5_tellVisits_98 (((h11.1 c12).1 c13).2 c14).1 ?_
            refine VE_goto 107 dX5_tellVisits_99 ?_
            exact VM_iret dX5_tellVisits_107 (((h11.1 c12).1 c13).2 c14).2
        · refine VE_aload_n 1 dX5_tellVisits_78 (k := ?_)
          refine VE_getR 31 dX5_tellVisits_79 fl_X5_31 ?_
          refine VE_iload_n 0 dX5_tellVisits_82 (k := ?_)
          refine VE_iald dX5_tellVisits_83 ((h11.1 c12).2 c13).1 ?_
          refine VE_goto 107 dX5_tellVisits_84 ?_
          exact VM_iret dX5_tellVisits_107 ((h11.1 c12).2 c13).2
      · refine VE_bipush (-9) dX5_tellVisits_69 (k := ?_)
        exact VM_iret dX5_tellVisits_71 (h11.2 c12)
    · by_cases c3 : a1 = 2
      · refine VE_tableIn 41 dX5_tellVisits_1 (by rw [c3]; decide) (by rw [c3]; decide) (by rw [c3]; rfl) ?_
        refine VE_aload_n 0 dX5_tellVisits_41 (k := ?_)
        refine VE_cVi [] dX5_tellVisits_42 ml_X5_141 (((h.2 c1).2 c2).1 c3) (fun r18 σ19 h20 => ?_) (rok_D d)
        exact VM_iret dX5_tellVisits_45 h20
      · by_cases c4 : a1 = 3
        · refine VE_tableIn 46 dX5_tellVisits_1 (by rw [c4]; decide) (by rw [c4]; decide) (by rw [c4]; rfl) ?_
          refine VE_aload_n 0 dX5_tellVisits_46 (k := ?_)
          refine VE_getI dX5_tellVisits_47 fl_X5_106 ?_
          exact VM_iret dX5_tellVisits_50 ((((h.2 c1).2 c2).2 c3).1 c4)
        · by_cases c5 : a1 = 4
          · refine VE_tableIn 51 dX5_tellVisits_1 (by rw [c5]; decide) (by rw [c5]; decide) (by rw [c5]; rfl) ?_
            refine VE_aload_n 0 dX5_tellVisits_51 (k := ?_)
            refine VE_cVi [] dX5_tellVisits_52 ml_X5_144 (((((h.2 c1).2 c2).2 c3).2 c4).1 c5) (fun r21 σ22 h23 => ?_) (rok_D d)
            exact VM_iret dX5_tellVisits_55 h23
          · refine VE_tableOut 56 dX5_tellVisits_1 (by have e0 : ¬ a1.toInt = 0 := i32_ne c1; have e1 : ¬ a1.toInt = 1 := i32_ne c2; have e2 : ¬ a1.toInt = 2 := i32_ne c3; have e3 : ¬ a1.toInt = 3 := i32_ne c4; have e4 : ¬ a1.toInt = 4 := i32_ne c5; omega) ?_
            refine VE_iload_n 1 dX5_tellVisits_56 (k := ?_)
            refine VE_bipush 10 dX5_tellVisits_57 (k := ?_)
            refine VE_irem dX5_tellVisits_59 (by decide) ?_
            refine VE_istore_n (ls' := [(2, vI (a1 - a1 / 10 * 10)), (0, vR 23), (1, vI a1)]) dX5_tellVisits_60 ?_
            refine VE_aload_n 1 dX5_tellVisits_61 (k := ?_)
            refine VE_iload_n 0 dX5_tellVisits_62 (k := ?_)
            refine VE_cVi [vI (a1 - a1 / 10 * 10)] dX5_tellVisits_63 ml_X5_100 (((((h.2 c1).2 c2).2 c3).2 c4).2 c5) (fun r24 σ25 h26 => ?_) (rok_D d)
            refine VE_if_ne 72 dX5_tellVisits_66 (fun c27 => ?_) (fun c27 => ?_)
            · refine VE_iload_n 2 dX5_tellVisits_72 (k := ?_)
              refine VE_bipush 20 dX5_tellVisits_73 (k := ?_)
              refine VE_icmp_ge 87 dX5_tellVisits_75 (fun c28 => ?_) (fun c28 => ?_)
              · refine VE_iload_n 2 dX5_tellVisits_87 (k := ?_)
                refine VE_bipush 30 dX5_tellVisits_88 (k := ?_)
                refine VE_icmp_ge 102 dX5_tellVisits_90 (fun c29 => ?_) (fun c29 => ?_)
                · refine VE_aload_n 1 dX5_tellVisits_102 (k := ?_)
                  refine VE_iload_n 0 dX5_tellVisits_103 (k := ?_)
                  refine VE_cVi [vI (a1 - a1 / 10 * 10)] dX5_tellVisits_104 ml_X5_147 (((h26.1 c27).1 c28).1 c29) (fun r30 σ31 h32 => ?_) (rok_D d)
                  exact VM_iret dX5_tellVisits_107 h32
                · refine VE_aload_n 1 dX5_tellVisits_93 (k := ?_)
                  refine VE_getR 32 dX5_tellVisits_94 fl_X5_34 ?_
                  refine VE_iload_n 0 dX5_tellVisits_97 (k := ?_)
                  refine VE_iald dX5_tellVisits_98 (((h26.1 c27).1 c28).2 c29).1 ?_
                  refine VE_goto 107 dX5_tellVisits_99 ?_
                  exact VM_iret dX5_tellVisits_107 (((h26.1 c27).1 c28).2 c29).2
              · refine VE_aload_n 1 dX5_tellVisits_78 (k := ?_)
                refine VE_getR 31 dX5_tellVisits_79 fl_X5_31 ?_
                refine VE_iload_n 0 dX5_tellVisits_82 (k := ?_)
                refine VE_iald dX5_tellVisits_83 ((h26.1 c27).2 c28).1 ?_
                refine VE_goto 107 dX5_tellVisits_84 ?_
                exact VM_iret dX5_tellVisits_107 ((h26.1 c27).2 c28).2
            · refine VE_bipush (-9) dX5_tellVisits_69 (k := ?_)
              exact VM_iret dX5_tellVisits_71 (h26.2 c27)
theorem dX5_atHome_0 : decode cX5_atHome 0 = .ok (.iconst 0, 1) := by decide +kernel
theorem dX5_atHome_1 : decode cX5_atHome 1 = .ok (.istore_n 1, 1) := by decide +kernel
theorem dX5_atHome_2 : decode cX5_atHome 2 = .ok (.iconst 0, 1) := by decide +kernel
theorem dX5_atHome_3 : decode cX5_atHome 3 = .ok (.istore_n 2, 1) := by decide +kernel
theorem dX5_atHome_4 : decode cX5_atHome 4 = .ok (.iload_n 2, 1) := by decide +kernel
theorem dX5_atHome_5 : decode cX5_atHome 5 = .ok (.aload_n 0, 1) := by decide +kernel
theorem dX5_atHome_6 : decode cX5_atHome 6 = .ok (.getfield 59, 3) := by decide +kernel
theorem dX5_atHome_9 : decode cX5_atHome 9 = .ok (.if_icmp .ge 29, 3) := by decide +kernel
theorem dX5_atHome_12 : decode cX5_atHome 12 = .ok (.iload_n 1, 1) := by decide +kernel
theorem dX5_atHome_13 : decode cX5_atHome 13 = .ok (.aload_n 0, 1) := by decide +kernel
theorem dX5_atHome_14 : decode cX5_atHome 14 = .ok (.getfield 31, 3) := by decide +kernel
theorem dX5_atHome_17 : decode cX5_atHome 17 = .ok (.iload_n 2, 1) := by decide +kernel
theorem dX5_atHome_18 : decode cX5_atHome 18 = .ok (.iaload, 1) := by decide +kernel
theorem dX5_atHome_19 : decode cX5_atHome 19 = .ok (.iload_n 2, 1) := by decide +kernel
theorem dX5_atHome_20 : decode cX5_atHome 20 = .ok (.if_icmp .ne 9, 3) := by decide +kernel
theorem dX5_atHome_23 : decode cX5_atHome 23 = .ok (.iconst 1, 1) := by decide +kernel
theorem dX5_atHome_24 : decode cX5_atHome 24 = .ok (.iload_n 2, 1) := by decide +kernel
theorem dX5_atHome_25 : decode cX5_atHome 25 = .ok (.ishl, 1) := by decide +kernel
theorem dX5_atHome_26 : decode cX5_atHome 26 = .ok (.goto 4, 3) := by decide +kernel
theorem dX5_atHome_29 : decode cX5_atHome 29 = .ok (.iconst 0, 1) := by decide +kernel
theorem dX5_atHome_30 : decode cX5_atHome 30 = .ok (.ior, 1) := by decide +kernel
theorem dX5_atHome_31 : decode cX5_atHome 31 = .ok (.istore_n 1, 1) := by decide +kernel
theorem dX5_atHome_32 : decode cX5_atHome 32 = .ok (.iinc 2 1, 3) := by decide +kernel
theorem dX5_atHome_35 : decode cX5_atHome 35 = .ok (.goto (-31), 3) := by decide +kernel
theorem dX5_atHome_38 : decode cX5_atHome 38 = .ok (.iload_n 1, 1) := by decide +kernel
theorem dX5_atHome_39 : decode cX5_atHome 39 = .ok (.ireturn, 1) := by decide +kernel
set_option maxRecDepth 20000 in
theorem S_X5_atHome_0 {g : GG} {d : Nat} {F : Int32 → St → Prop}  (σ : St) (h : VM g d M_X5_atHome (qI F) 4 [(0, vR 23), (1, vI 0), (2, vI 0)] [] σ) : VM g d M_X5_atHome (qI F) 0 [(0, vR 23)] [] σ := by
  refine VE_iconst 0 dX5_atHome_0 (k := ?_)
  refine VE_istore_n (ls' := [(1, vI 0), (0, vR 23)]) dX5_atHome_1 ?_
  refine VE_iconst 0 dX5_atHome_2 (k := ?_)
  refine VE_istore_n (ls' := [(2, vI 0), (1, vI 0), (0, vR 23)]) dX5_atHome_3 ?_
  exact VE_sub [2, 1, 0] rfl h
set_option maxRecDepth 20000 in
theorem S_X5_atHome_4 {g : GG} {d : Nat} {F : Int32 → St → Prop} (x1 : Int32) (x2 : Int32) (σ : St) (h : (((σ 23 5) ≤ x2 → F x1 σ) ∧ (¬ (σ 23 5) ≤ x2 → (vp_in x2 5 ∧ ((¬ (σ 31 x2.toNatClampNeg) = x2 → VM g d M_X5_atHome (qI F) 4 [(0, vR 23), (1, vI (x1 ||| 0)), (2, vI (x2 + 1))] [] σ) ∧ ((σ 31 x2.toNatClampNeg) = x2 → VM g d M_X5_atHome (qI F) 4 [(0, vR 23), (1, vI (x1 ||| (1 <<< (x2 &&& 31)))), (2, vI (x2 + 1))] [] σ)))))) : VM g d M_X5_atHome (qI F) 4 [(0, vR 23), (1, vI x1), (2, vI x2)] [] σ := by
  refine VE_iload_n 2 dX5_atHome_4 (k := ?_)
  refine VE_aload_n 0 dX5_atHome_5 (k := ?_)
  refine VE_getI dX5_atHome_6 fl_X5_59 ?_
  refine VE_icmp_ge 38 dX5_atHome_9 (fun c1 => ?_) (fun c1 => ?_)
  · refine VE_iload_n 1 dX5_atHome_38 (k := ?_)
    exact VM_iret dX5_atHome_39 (h.1 c1)
  · refine VE_iload_n 1 dX5_atHome_12 (k := ?_)
    refine VE_aload_n 0 dX5_atHome_13 (k := ?_)
    refine VE_getR 31 dX5_atHome_14 fl_X5_31 ?_
    refine VE_iload_n 2 dX5_atHome_17 (k := ?_)
    refine VE_iald dX5_atHome_18 (h.2 c1).1 ?_
    refine VE_iload_n 2 dX5_atHome_19 (k := ?_)
    refine VE_icmp_ne 29 dX5_atHome_20 (fun c2 => ?_) (fun c2 => ?_)
    · refine VE_iconst 0 dX5_atHome_29 (k := ?_)
      refine VE_ior dX5_atHome_30 ?_
      refine VE_istore_n (ls' := [(1, vI (x1 ||| 0)), (0, vR 23), (2, vI x2)]) dX5_atHome_31 ?_
      refine VE_iinc 2 (x2 + 1) (ls' := [(2, vI (x2 + 1)), (1, vI (x1 ||| 0)), (0, vR 23)]) dX5_atHome_32 ?_
      refine VE_goto 4 dX5_atHome_35 ?_
      exact VE_sub [2, 1, 0] rfl ((h.2 c1).2.1 c2)
    · refine VE_iconst 1 dX5_atHome_23 (k := ?_)
      refine VE_iload_n 2 dX5_atHome_24 (k := ?_)
      refine VE_ishl dX5_atHome_25 ?_
      refine VE_goto 30 dX5_atHome_26 ?_
      refine VE_ior dX5_atHome_30 ?_
      refine VE_istore_n (ls' := [(1, vI (x1 ||| (1 <<< (x2 &&& 31)))), (0, vR 23), (2, vI x2)]) dX5_atHome_31 ?_
      refine VE_iinc 2 (x2 + 1) (ls' := [(2, vI (x2 + 1)), (1, vI (x1 ||| (1 <<< (x2 &&& 31)))), (0, vR 23)]) dX5_atHome_32 ?_
      refine VE_goto 4 dX5_atHome_35 ?_
      exact VE_sub [2, 1, 0] rfl ((h.2 c1).2.2 c2)
theorem dX5_firstAway_0 : decode cX5_firstAway 0 = .ok (.iconst 0, 1) := by decide +kernel
theorem dX5_firstAway_1 : decode cX5_firstAway 1 = .ok (.istore_n 1, 1) := by decide +kernel
theorem dX5_firstAway_2 : decode cX5_firstAway 2 = .ok (.iload_n 1, 1) := by decide +kernel
theorem dX5_firstAway_3 : decode cX5_firstAway 3 = .ok (.aload_n 0, 1) := by decide +kernel
theorem dX5_firstAway_4 : decode cX5_firstAway 4 = .ok (.getfield 59, 3) := by decide +kernel
theorem dX5_firstAway_7 : decode cX5_firstAway 7 = .ok (.if_icmp .ge 21, 3) := by decide +kernel
theorem dX5_firstAway_10 : decode cX5_firstAway 10 = .ok (.aload_n 0, 1) := by decide +kernel
theorem dX5_firstAway_11 : decode cX5_firstAway 11 = .ok (.getfield 31, 3) := by decide +kernel
theorem dX5_firstAway_14 : decode cX5_firstAway 14 = .ok (.iload_n 1, 1) := by decide +kernel
theorem dX5_firstAway_15 : decode cX5_firstAway 15 = .ok (.iaload, 1) := by decide +kernel
theorem dX5_firstAway_16 : decode cX5_firstAway 16 = .ok (.iload_n 1, 1) := by decide +kernel
theorem dX5_firstAway_17 : decode cX5_firstAway 17 = .ok (.if_icmp .eq 5, 3) := by decide +kernel
theorem dX5_firstAway_20 : decode cX5_firstAway 20 = .ok (.iload_n 1, 1) := by decide +kernel
theorem dX5_firstAway_21 : decode cX5_firstAway 21 = .ok (.ireturn, 1) := by decide +kernel
theorem dX5_firstAway_22 : decode cX5_firstAway 22 = .ok (.iinc 1 1, 3) := by decide +kernel
theorem dX5_firstAway_25 : decode cX5_firstAway 25 = .ok (.goto (-23), 3) := by decide +kernel
theorem dX5_firstAway_28 : decode cX5_firstAway 28 = .ok (.bipush (-9), 2) := by decide +kernel
theorem dX5_firstAway_30 : decode cX5_firstAway 30 = .ok (.ireturn, 1) := by decide +kernel
set_option maxRecDepth 20000 in
theorem S_X5_firstAway_0 {g : GG} {d : Nat} {F : Int32 → St → Prop}  (σ : St) (h : VM g d M_X5_firstAway (qI F) 2 [(0, vR 23), (1, vI 0)] [] σ) : VM g d M_X5_firstAway (qI F) 0 [(0, vR 23)] [] σ := by
  refine VE_iconst 0 dX5_firstAway_0 (k := ?_)
  refine VE_istore_n (ls' := [(1, vI 0), (0, vR 23)]) dX5_firstAway_1 ?_
  exact VE_sub [1, 0] rfl h
set_option maxRecDepth 20000 in
theorem S_X5_firstAway_2 {g : GG} {d : Nat} {F : Int32 → St → Prop} (x1 : Int32) (σ : St) (h : (((σ 23 5) ≤ x1 → F (-9) σ) ∧ (¬ (σ 23 5) ≤ x1 → (vp_in x1 5 ∧ (((σ 31 x1.toNatClampNeg) = x1 → VM g d M_X5_firstAway (qI F) 2 [(0, vR 23), (1, vI (x1 + 1))] [] σ) ∧ (¬ (σ 31 x1.toNatClampNeg) = x1 → F x1 σ)))))) : VM g d M_X5_firstAway (qI F) 2 [(0, vR 23), (1, vI x1)] [] σ := by
  refine VE_iload_n 1 dX5_firstAway_2 (k := ?_)
  refine VE_aload_n 0 dX5_firstAway_3 (k := ?_)
  refine VE_getI dX5_firstAway_4 fl_X5_59 ?_
  refine VE_icmp_ge 28 dX5_firstAway_7 (fun c1 => ?_) (fun c1 => ?_)
  · refine VE_bipush (-9) dX5_firstAway_28 (k := ?_)
    exact VM_iret dX5_firstAway_30 (h.1 c1)
  · refine VE_aload_n 0 dX5_firstAway_10 (k := ?_)
    refine VE_getR 31 dX5_firstAway_11 fl_X5_31 ?_
    refine VE_iload_n 1 dX5_firstAway_14 (k := ?_)
    refine VE_iald dX5_firstAway_15 (h.2 c1).1 ?_
    refine VE_iload_n 1 dX5_firstAway_16 (k := ?_)
    refine VE_icmp_eq 22 dX5_firstAway_17 (fun c2 => ?_) (fun c2 => ?_)
    · refine VE_iinc 1 (x1 + 1) (ls' := [(1, vI (x1 + 1)), (0, vR 23)]) dX5_firstAway_22 ?_
      refine VE_goto 2 dX5_firstAway_25 ?_
      exact VE_sub [1, 0] rfl ((h.2 c1).2.1 c2)
    · refine VE_iload_n 1 dX5_firstAway_20 (k := ?_)
      exact VM_iret dX5_firstAway_21 ((h.2 c1).2.2 c2)
theorem dX5_home_0 : decode cX5_home 0 = .ok (.iconst 0, 1) := by decide +kernel
theorem dX5_home_1 : decode cX5_home 1 = .ok (.istore_n 1, 1) := by decide +kernel
theorem dX5_home_2 : decode cX5_home 2 = .ok (.aload_n 0, 1) := by decide +kernel
theorem dX5_home_3 : decode cX5_home 3 = .ok (.invokevirtual 150, 3) := by decide +kernel
theorem dX5_home_6 : decode cX5_home 6 = .ok (.bipush (-9), 2) := by decide +kernel
theorem dX5_home_8 : decode cX5_home 8 = .ok (.if_icmp .eq 33, 3) := by decide +kernel
theorem dX5_home_11 : decode cX5_home 11 = .ok (.aload_n 0, 1) := by decide +kernel
theorem dX5_home_12 : decode cX5_home 12 = .ok (.aload_n 0, 1) := by decide +kernel
theorem dX5_home_13 : decode cX5_home 13 = .ok (.getfield 106, 3) := by decide +kernel
theorem dX5_home_16 : decode cX5_home 16 = .ok (.bipush (-9), 2) := by decide +kernel
theorem dX5_home_18 : decode cX5_home 18 = .ok (.if_icmp .ne 10, 3) := by decide +kernel
theorem dX5_home_21 : decode cX5_home 21 = .ok (.aload_n 0, 1) := by decide +kernel
theorem dX5_home_22 : decode cX5_home 22 = .ok (.invokevirtual 150, 3) := by decide +kernel
theorem dX5_home_25 : decode cX5_home 25 = .ok (.goto 7, 3) := by decide +kernel
theorem dX5_home_28 : decode cX5_home 28 = .ok (.aload_n 0, 1) := by decide +kernel
theorem dX5_home_29 : decode cX5_home 29 = .ok (.getfield 106, 3) := by decide +kernel
theorem dX5_home_32 : decode cX5_home 32 = .ok (.invokevirtual 109, 3) := by decide +kernel
theorem dX5_home_35 : decode cX5_home 35 = .ok (.iinc 1 1, 3) := by decide +kernel
theorem dX5_home_38 : decode cX5_home 38 = .ok (.goto (-36), 3) := by decide +kernel
theorem dX5_home_41 : decode cX5_home 41 = .ok (.iload_n 1, 1) := by decide +kernel
theorem dX5_home_42 : decode cX5_home 42 = .ok (.ireturn, 1) := by decide +kernel
set_option maxRecDepth 20000 in
theorem S_X5_home_0 {g : GG} {d : Nat} {F : Int32 → St → Prop}  (σ : St) (h : VM g (d + 1) M_X5_home (qI F) 2 [(0, vR 23), (1, vI 0)] [] σ) : VM g (d + 1) M_X5_home (qI F) 0 [(0, vR 23)] [] σ := by
  refine VE_iconst 0 dX5_home_0 (k := ?_)
  refine VE_istore_n (ls' := [(1, vI 0), (0, vR 23)]) dX5_home_1 ?_
  exact VE_sub [1, 0] rfl h
set_option maxRecDepth 20000 in
theorem S_X5_home_2 {g : GG} {d : Nat} {F : Int32 → St → Prop} (x1 : Int32) (σ : St) (h : (ME g d M_X5_firstAway [vR 23] σ (qI (fun r1 σ2 => ((r1 = (-9) → F x1 σ2) ∧ (¬ r1 = (-9) → ((¬ (σ2 23 14) = (-9) → (ME g d M_X5_change [vR 23, vI (σ2 23 14)] σ2 (qV (fun σ7 => VM g (d + 1) M_X5_home (qI F) 2 [(0, vR 23), (1, vI (x1 + 1))] [] σ7)))) ∧ ((σ2 23 14) = (-9) → (ME g d M_X5_firstAway [vR 23] σ2 (qI (fun r9 σ10 => (ME g d M_X5_change [vR 23, vI r9] σ10 (qV (fun σ13 => VM g (d + 1) M_X5_home (qI F) 2 [(0, vR 23), (1, vI (x1 + 1))] [] σ13)))))))))))))) : VM g (d + 1) M_X5_home (qI F) 2 [(0, vR 23), (1, vI x1)] [] σ := by
  refine VE_aload_n 0 dX5_home_2 (k := ?_)
  refine VE_cVi [] dX5_home_3 ml_X5_150 h (fun r1 σ2 h3 => ?_) (rok_D d)
  refine VE_bipush (-9) dX5_home_6 (k := ?_)
  refine VE_icmp_eq 41 dX5_home_8 (fun c4 => ?_) (fun c4 => ?_)
  · refine VE_iload_n 1 dX5_home_41 (k := ?_)
    exact VM_iret dX5_home_42 (h3.1 c4)
  · refine VE_aload_n 0 dX5_home_11 (k := ?_)
    refine VE_aload_n 0 dX5_home_12 (k := ?_)
    refine VE_getI dX5_home_13 fl_X5_106 ?_
    refine VE_bipush (-9) dX5_home_16 (k := ?_)
    refine VE_icmp_ne 28 dX5_home_18 (fun c5 => ?_) (fun c5 => ?_)
    · refine VE_aload_n 0 dX5_home_28 (k := ?_)
      refine VE_getI dX5_home_29 fl_X5_106 ?_
      refine VE_cVv [vI (σ2 23 14)] dX5_home_32 ml_X5_109 ((h3.2 c4).1 c5) (fun σ7 h8 => ?_) (rok_D d)
      refine VE_iinc 1 (x1 + 1) (ls' := [(1, vI (x1 + 1)), (0, vR 23)]) dX5_home_35 ?_
      refine VE_goto 2 dX5_home_38 ?_
      exact VE_sub [1, 0] rfl h8
    · refine VE_aload_n 0 dX5_home_21 (k := ?_)
      refine VE_cVi [] dX5_home_22 ml_X5_150 ((h3.2 c4).2 c5) (fun r9 σ10 h11 => ?_) (rok_D d)
      refine VE_goto 32 dX5_home_25 ?_
      refine VE_cVv [vI r9] dX5_home_32 ml_X5_109 h11 (fun σ13 h14 => ?_) (rok_D d)
      refine VE_iinc 1 (x1 + 1) (ls' := [(1, vI (x1 + 1)), (0, vR 23)]) dX5_home_35 ?_
      refine VE_goto 2 dX5_home_38 ?_
      exact VE_sub [1, 0] rfl h14
