theorem dX5_worn_0 : decode cX5_worn 0 = .ok (.bipush (-9), 2) := by decide +kernel
theorem dX5_worn_2 : decode cX5_worn 2 = .ok (.istore_n 1, 1) := by decide +kernel
theorem dX5_worn_3 : decode cX5_worn 3 = .ok (.iconst 0, 1) := by decide +kernel
theorem dX5_worn_4 : decode cX5_worn 4 = .ok (.istore_n 2, 1) := by decide +kernel
theorem dX5_worn_5 : decode cX5_worn 5 = .ok (.iload_n 2, 1) := by decide +kernel
theorem dX5_worn_6 : decode cX5_worn 6 = .ok (.aload_n 0, 1) := by decide +kernel
theorem dX5_worn_7 : decode cX5_worn 7 = .ok (.getfield 59, 3) := by decide +kernel
theorem dX5_worn_10 : decode cX5_worn 10 = .ok (.if_icmp .ge 41, 3) := by decide +kernel
theorem dX5_worn_13 : decode cX5_worn 13 = .ok (.aload_n 0, 1) := by decide +kernel
theorem dX5_worn_14 : decode cX5_worn 14 = .ok (.getfield 34, 3) := by decide +kernel
theorem dX5_worn_17 : decode cX5_worn 17 = .ok (.iload_n 2, 1) := by decide +kernel
theorem dX5_worn_18 : decode cX5_worn 18 = .ok (.iaload, 1) := by decide +kernel
theorem dX5_worn_19 : decode cX5_worn 19 = .ok (.ifCond .le 26, 3) := by decide +kernel
theorem dX5_worn_22 : decode cX5_worn 22 = .ok (.iload_n 1, 1) := by decide +kernel
theorem dX5_worn_23 : decode cX5_worn 23 = .ok (.bipush (-9), 2) := by decide +kernel
theorem dX5_worn_25 : decode cX5_worn 25 = .ok (.if_icmp .eq 18, 3) := by decide +kernel
theorem dX5_worn_28 : decode cX5_worn 28 = .ok (.aload_n 0, 1) := by decide +kernel
theorem dX5_worn_29 : decode cX5_worn 29 = .ok (.getfield 34, 3) := by decide +kernel
theorem dX5_worn_32 : decode cX5_worn 32 = .ok (.iload_n 2, 1) := by decide +kernel
theorem dX5_worn_33 : decode cX5_worn 33 = .ok (.iaload, 1) := by decide +kernel
theorem dX5_worn_34 : decode cX5_worn 34 = .ok (.aload_n 0, 1) := by decide +kernel
theorem dX5_worn_35 : decode cX5_worn 35 = .ok (.getfield 34, 3) := by decide +kernel
theorem dX5_worn_38 : decode cX5_worn 38 = .ok (.iload_n 1, 1) := by decide +kernel
theorem dX5_worn_39 : decode cX5_worn 39 = .ok (.iaload, 1) := by decide +kernel
theorem dX5_worn_40 : decode cX5_worn 40 = .ok (.if_icmp .le 5, 3) := by decide +kernel
theorem dX5_worn_43 : decode cX5_worn 43 = .ok (.iload_n 2, 1) := by decide +kernel
theorem dX5_worn_44 : decode cX5_worn 44 = .ok (.istore_n 1, 1) := by decide +kernel
theorem dX5_worn_45 : decode cX5_worn 45 = .ok (.iinc 2 1, 3) := by decide +kernel
theorem dX5_worn_48 : decode cX5_worn 48 = .ok (.goto (-43), 3) := by decide +kernel
theorem dX5_worn_51 : decode cX5_worn 51 = .ok (.iload_n 1, 1) := by decide +kernel
theorem dX5_worn_52 : decode cX5_worn 52 = .ok (.ireturn, 1) := by decide +kernel
set_option maxRecDepth 20000 in
theorem S_X5_worn_0 {g : GG} {d : Nat} {F : Int32 → St → Prop}  (σ : St) (h : VM g d M_X5_worn (qI F) 5 [(0, vR 23), (1, vI (-9)), (2, vI 0)] [] σ) : VM g d M_X5_worn (qI F) 0 [(0, vR 23)] [] σ := by
  refine VE_bipush (-9) dX5_worn_0 (k := ?_)
  refine VE_istore_n (ls' := [(1, vI (-9)), (0, vR 23)]) dX5_worn_2 ?_
  refine VE_iconst 0 dX5_worn_3 (k := ?_)
  refine VE_istore_n (ls' := [(2, vI 0), (1, vI (-9)), (0, vR 23)]) dX5_worn_4 ?_
  exact VE_sub [2, 1, 0] rfl h
set_option maxRecDepth 20000 in
theorem S_X5_worn_5 {g : GG} {d : Nat} {F : Int32 → St → Prop} (x1 : Int32) (x2 : Int32) (σ : St) (h : (((σ 23 5) ≤ x2 → F x1 σ) ∧ (¬ (σ 23 5) ≤ x2 → (vp_in x2 5 ∧ (((σ 32 x2.toNatClampNeg) ≤ 0 → VM g d M_X5_worn (qI F) 5 [(0, vR 23), (1, vI x1), (2, vI (x2 + 1))] [] σ) ∧ (¬ (σ 32 x2.toNatClampNeg) ≤ 0 → ((x1 = (-9) → VM g d M_X5_worn (qI F) 5 [(0, vR 23), (1, vI x2), (2, vI (x2 + 1))] [] σ) ∧ (¬ x1 = (-9) → (vp_in x1 5 ∧ (((σ 32 x2.toNatClampNeg) ≤ (σ 32 x1.toNatClampNeg) → VM g d M_X5_worn (qI F) 5 [(0, vR 23), (1, vI x1), (2, vI (x2 + 1))] [] σ) ∧ (¬ (σ 32 x2.toNatClampNeg) ≤ (σ 32 x1.toNatClampNeg) → VM g d M_X5_worn (qI F) 5 [(0, vR 23), (1, vI x2), (2, vI (x2 + 1))] [] σ))))))))))) : VM g d M_X5_worn (qI F) 5 [(0, vR 23), (1, vI x1), (2, vI x2)] [] σ := by
  refine VE_iload_n 2 dX5_worn_5 (k := ?_)
  refine VE_aload_n 0 dX5_worn_6 (k := ?_)
  refine VE_getI dX5_worn_7 fl_X5_59 ?_
  refine VE_icmp_ge 51 dX5_worn_10 (fun c1 => ?_) (fun c1 => ?_)
  · refine VE_iload_n 1 dX5_worn_51 (k := ?_)
    exact VM_iret dX5_worn_52 (h.1 c1)
  · refine VE_aload_n 0 dX5_worn_13 (k := ?_)
    refine VE_getR 32 dX5_worn_14 fl_X5_34 ?_
    refine VE_iload_n 2 dX5_worn_17 (k := ?_)
    refine VE_iald dX5_worn_18 (h.2 c1).1 ?_
    refine VE_if_le 45 dX5_worn_19 (fun c2 => ?_) (fun c2 => ?_)
    · refine VE_iinc 2 (x2 + 1) (ls' := [(2, vI (x2 + 1)), (0, vR 23), (1, vI x1)]) dX5_worn_45 ?_
      refine VE_goto 5 dX5_worn_48 ?_
      exact VE_sub [1, 2, 0] rfl ((h.2 c1).2.1 c2)
    · refine VE_iload_n 1 dX5_worn_22 (k := ?_)
      refine VE_bipush (-9) dX5_worn_23 (k := ?_)
      refine VE_icmp_eq 43 dX5_worn_25 (fun c3 => ?_) (fun c3 => ?_)
      · refine VE_iload_n 2 dX5_worn_43 (k := ?_)
        refine VE_istore_n (ls' := [(1, vI x2), (0, vR 23), (2, vI x2)]) dX5_worn_44 ?_
        refine VE_iinc 2 (x2 + 1) (ls' := [(2, vI (x2 + 1)), (1, vI x2), (0, vR 23)]) dX5_worn_45 ?_
        refine VE_goto 5 dX5_worn_48 ?_
        exact VE_sub [2, 1, 0] rfl (((h.2 c1).2.2 c2).1 c3)
      · refine VE_aload_n 0 dX5_worn_28 (k := ?_)
        refine VE_getR 32 dX5_worn_29 fl_X5_34 ?_
        refine VE_iload_n 2 dX5_worn_32 (k := ?_)
        refine VE_iald dX5_worn_33 (h.2 c1).1 ?_
        refine VE_aload_n 0 dX5_worn_34 (k := ?_)
        refine VE_getR 32 dX5_worn_35 fl_X5_34 ?_
        refine VE_iload_n 1 dX5_worn_38 (k := ?_)
        refine VE_iald dX5_worn_39 (((h.2 c1).2.2 c2).2 c3).1 ?_
        refine VE_icmp_le 45 dX5_worn_40 (fun c4 => ?_) (fun c4 => ?_)
        · refine VE_iinc 2 (x2 + 1) (ls' := [(2, vI (x2 + 1)), (0, vR 23), (1, vI x1)]) dX5_worn_45 ?_
          refine VE_goto 5 dX5_worn_48 ?_
          exact VE_sub [1, 2, 0] rfl ((((h.2 c1).2.2 c2).2 c3).2.1 c4)
        · refine VE_iload_n 2 dX5_worn_43 (k := ?_)
          refine VE_istore_n (ls' := [(1, vI x2), (0, vR 23), (2, vI x2)]) dX5_worn_44 ?_
          refine VE_iinc 2 (x2 + 1) (ls' := [(2, vI (x2 + 1)), (1, vI x2), (0, vR 23)]) dX5_worn_45 ?_
          refine VE_goto 5 dX5_worn_48 ?_
          exact VE_sub [2, 1, 0] rfl ((((h.2 c1).2.2 c2).2 c3).2.2 c4)
theorem dX5_fooled_0 : decode cX5_fooled 0 = .ok (.iconst 0, 1) := by decide +kernel
theorem dX5_fooled_1 : decode cX5_fooled 1 = .ok (.istore_n 2, 1) := by decide +kernel
theorem dX5_fooled_2 : decode cX5_fooled 2 = .ok (.iconst 0, 1) := by decide +kernel
theorem dX5_fooled_3 : decode cX5_fooled 3 = .ok (.istore_n 3, 1) := by decide +kernel
theorem dX5_fooled_4 : decode cX5_fooled 4 = .ok (.iload_n 3, 1) := by decide +kernel
theorem dX5_fooled_5 : decode cX5_fooled 5 = .ok (.aload_n 0, 1) := by decide +kernel
theorem dX5_fooled_6 : decode cX5_fooled 6 = .ok (.getfield 59, 3) := by decide +kernel
theorem dX5_fooled_9 : decode cX5_fooled 9 = .ok (.if_icmp .ge 53, 3) := by decide +kernel
theorem dX5_fooled_12 : decode cX5_fooled 12 = .ok (.iload_n 2, 1) := by decide +kernel
theorem dX5_fooled_13 : decode cX5_fooled 13 = .ok (.iload_n 3, 1) := by decide +kernel
theorem dX5_fooled_14 : decode cX5_fooled 14 = .ok (.iload_n 1, 1) := by decide +kernel
theorem dX5_fooled_15 : decode cX5_fooled 15 = .ok (.if_icmp .eq 38, 3) := by decide +kernel
theorem dX5_fooled_18 : decode cX5_fooled 18 = .ok (.aload_n 0, 1) := by decide +kernel
theorem dX5_fooled_19 : decode cX5_fooled 19 = .ok (.getfield 31, 3) := by decide +kernel
theorem dX5_fooled_22 : decode cX5_fooled 22 = .ok (.iload_n 3, 1) := by decide +kernel
theorem dX5_fooled_23 : decode cX5_fooled 23 = .ok (.iaload, 1) := by decide +kernel
theorem dX5_fooled_24 : decode cX5_fooled 24 = .ok (.bipush (-9), 2) := by decide +kernel
theorem dX5_fooled_26 : decode cX5_fooled 26 = .ok (.if_icmp .eq 27, 3) := by decide +kernel
theorem dX5_fooled_29 : decode cX5_fooled 29 = .ok (.aload_n 0, 1) := by decide +kernel
theorem dX5_fooled_30 : decode cX5_fooled 30 = .ok (.getfield 31, 3) := by decide +kernel
theorem dX5_fooled_33 : decode cX5_fooled 33 = .ok (.iload_n 3, 1) := by decide +kernel
theorem dX5_fooled_34 : decode cX5_fooled 34 = .ok (.iaload, 1) := by decide +kernel
theorem dX5_fooled_35 : decode cX5_fooled 35 = .ok (.iload_n 3, 1) := by decide +kernel
theorem dX5_fooled_36 : decode cX5_fooled 36 = .ok (.if_icmp .eq 17, 3) := by decide +kernel
theorem dX5_fooled_39 : decode cX5_fooled 39 = .ok (.aload_n 0, 1) := by decide +kernel
theorem dX5_fooled_40 : decode cX5_fooled 40 = .ok (.getfield 25, 3) := by decide +kernel
theorem dX5_fooled_43 : decode cX5_fooled 43 = .ok (.iload_n 1, 1) := by decide +kernel
theorem dX5_fooled_44 : decode cX5_fooled 44 = .ok (.iaload, 1) := by decide +kernel
theorem dX5_fooled_45 : decode cX5_fooled 45 = .ok (.iload_n 3, 1) := by decide +kernel
theorem dX5_fooled_46 : decode cX5_fooled 46 = .ok (.if_icmp .eq 7, 3) := by decide +kernel
theorem dX5_fooled_49 : decode cX5_fooled 49 = .ok (.iconst 1, 1) := by decide +kernel
theorem dX5_fooled_50 : decode cX5_fooled 50 = .ok (.goto 4, 3) := by decide +kernel
theorem dX5_fooled_53 : decode cX5_fooled 53 = .ok (.iconst 0, 1) := by decide +kernel
theorem dX5_fooled_54 : decode cX5_fooled 54 = .ok (.iadd, 1) := by decide +kernel
theorem dX5_fooled_55 : decode cX5_fooled 55 = .ok (.istore_n 2, 1) := by decide +kernel
theorem dX5_fooled_56 : decode cX5_fooled 56 = .ok (.iinc 3 1, 3) := by decide +kernel
theorem dX5_fooled_59 : decode cX5_fooled 59 = .ok (.goto (-55), 3) := by decide +kernel
theorem dX5_fooled_62 : decode cX5_fooled 62 = .ok (.iload_n 2, 1) := by decide +kernel
theorem dX5_fooled_63 : decode cX5_fooled 63 = .ok (.ireturn, 1) := by decide +kernel
set_option maxRecDepth 20000 in
theorem S_X5_fooled_0 {g : GG} {d : Nat} {F : Int32 → St → Prop} (a1 : Int32) (σ : St) (h : VM g d M_X5_fooled (qI F) 4 [(0, vR 23), (1, vI a1), (2, vI 0), (3, vI 0)] [] σ) : VM g d M_X5_fooled (qI F) 0 [(0, vR 23), (1, vI a1)] [] σ := by
  refine VE_iconst 0 dX5_fooled_0 (k := ?_)
  refine VE_istore_n (ls' := [(2, vI 0), (0, vR 23), (1, vI a1)]) dX5_fooled_1 ?_
  refine VE_iconst 0 dX5_fooled_2 (k := ?_)
  refine VE_istore_n (ls' := [(3, vI 0), (2, vI 0), (0, vR 23), (1, vI a1)]) dX5_fooled_3 ?_
  exact VE_sub [2, 3, 1, 0] rfl h
set_option maxRecDepth 20000 in
theorem S_X5_fooled_4 {g : GG} {d : Nat} {F : Int32 → St → Prop} (x1 : Int32) (x2 : Int32) (x3 : Int32) (σ : St) (h : (((σ 23 5) ≤ x3 → F x2 σ) ∧ (¬ (σ 23 5) ≤ x3 → ((x3 = x1 → VM g d M_X5_fooled (qI F) 4 [(0, vR 23), (1, vI x1), (2, vI (x2 + 0)), (3, vI (x3 + 1))] [] σ) ∧ (¬ x3 = x1 → (vp_in x3 5 ∧ (((σ 31 x3.toNatClampNeg) = (-9) → VM g d M_X5_fooled (qI F) 4 [(0, vR 23), (1, vI x1), (2, vI (x2 + 0)), (3, vI (x3 + 1))] [] σ) ∧ (¬ (σ 31 x3.toNatClampNeg) = (-9) → (((σ 31 x3.toNatClampNeg) = x3 → VM g d M_X5_fooled (qI F) 4 [(0, vR 23), (1, vI x1), (2, vI (x2 + 0)), (3, vI (x3 + 1))] [] σ) ∧ (¬ (σ 31 x3.toNatClampNeg) = x3 → (vp_in x1 5 ∧ (((σ 29 x1.toNatClampNeg) = x3 → VM g d M_X5_fooled (qI F) 4 [(0, vR 23), (1, vI x1), (2, vI (x2 + 0)), (3, vI (x3 + 1))] [] σ) ∧ (¬ (σ 29 x1.toNatClampNeg) = x3 → VM g d M_X5_fooled (qI F) 4 [(0, vR 23), (1, vI x1), (2, vI (x2 + 1)), (3, vI (x3 + 1))] [] σ))))))))))))) : VM g d M_X5_fooled (qI F) 4 [(0, vR 23), (1, vI x1), (2, vI x2), (3, vI x3)] [] σ := by
  refine VE_iload_n 3 dX5_fooled_4 (k := ?_)
  refine VE_aload_n 0 dX5_fooled_5 (k := ?_)
  refine VE_getI dX5_fooled_6 fl_X5_59 ?_
  refine VE_icmp_ge 62 dX5_fooled_9 (fun c1 => ?_) (fun c1 => ?_)
  · refine VE_iload_n 2 dX5_fooled_62 (k := ?_)
    exact VM_iret dX5_fooled_63 (h.1 c1)
  · refine VE_iload_n 2 dX5_fooled_12 (k := ?_)
    refine VE_iload_n 3 dX5_fooled_13 (k := ?_)
    refine VE_iload_n 1 dX5_fooled_14 (k := ?_)
    refine VE_icmp_eq 53 dX5_fooled_15 (fun c2 => ?_) (fun c2 => ?_)
    · refine VE_iconst 0 dX5_fooled_53 (k := ?_)
      refine VE_iadd dX5_fooled_54 ?_
      refine VE_istore_n (ls' := [(2, vI (x2 + 0)), (0, vR 23), (1, vI x1), (3, vI x3)]) dX5_fooled_55 ?_
      refine VE_iinc 3 (x3 + 1) (ls' := [(3, vI (x3 + 1)), (2, vI (x2 + 0)), (0, vR 23), (1, vI x1)]) dX5_fooled_56 ?_
      refine VE_goto 4 dX5_fooled_59 ?_
      exact VE_sub [2, 3, 1, 0] rfl ((h.2 c1).1 c2)
    · refine VE_aload_n 0 dX5_fooled_18 (k := ?_)
      refine VE_getR 31 dX5_fooled_19 fl_X5_31 ?_
      refine VE_iload_n 3 dX5_fooled_22 (k := ?_)
      refine VE_iald dX5_fooled_23 ((h.2 c1).2 c2).1 ?_
      refine VE_bipush (-9) dX5_fooled_24 (k := ?_)
      refine VE_icmp_eq 53 dX5_fooled_26 (fun c3 => ?_) (fun c3 => ?_)
      · refine VE_iconst 0 dX5_fooled_53 (k := ?_)
        refine VE_iadd dX5_fooled_54 ?_
        refine VE_istore_n (ls' := [(2, vI (x2 + 0)), (0, vR 23), (1, vI x1), (3, vI x3)]) dX5_fooled_55 ?_
        refine VE_iinc 3 (x3 + 1) (ls' := [(3, vI (x3 + 1)), (2, vI (x2 + 0)), (0, vR 23), (1, vI x1)]) dX5_fooled_56 ?_
        refine VE_goto 4 dX5_fooled_59 ?_
        exact VE_sub [2, 3, 1, 0] rfl (((h.2 c1).2 c2).2.1 c3)
      · refine VE_aload_n 0 dX5_fooled_29 (k := ?_)
        refine VE_getR 31 dX5_fooled_30 fl_X5_31 ?_
        refine VE_iload_n 3 dX5_fooled_33 (k := ?_)
        refine VE_iald dX5_fooled_34 ((h.2 c1).2 c2).1 ?_
        refine VE_iload_n 3 dX5_fooled_35 (k := ?_)
        refine VE_icmp_eq 53 dX5_fooled_36 (fun c4 => ?_) (fun c4 => ?_)
        · refine VE_iconst 0 dX5_fooled_53 (k := ?_)
          refine VE_iadd dX5_fooled_54 ?_
          refine VE_istore_n (ls' := [(2, vI (x2 + 0)), (0, vR 23), (1, vI x1), (3, vI x3)]) dX5_fooled_55 ?_
          refine VE_iinc 3 (x3 + 1) (ls' := [(3, vI (x3 + 1)), (2, vI (x2 + 0)), (0, vR 23), (1, vI x1)]) dX5_fooled_56 ?_
          refine VE_goto 4 dX5_fooled_59 ?_
          exact VE_sub [2, 3, 1, 0] rfl ((((h.2 c1).2 c2).2.2 c3).1 c4)
        · refine VE_aload_n 0 dX5_fooled_39 (k := ?_)
          refine VE_getR 29 dX5_fooled_40 fl_X5_25 ?_
          refine VE_iload_n 1 dX5_fooled_43 (k := ?_)
          refine VE_iald dX5_fooled_44 ((((h.2 c1).2 c2).2.2 c3).2 c4).1 ?_
          refine VE_iload_n 3 dX5_fooled_45 (k := ?_)
          refine VE_icmp_eq 53 dX5_fooled_46 (fun c5 => ?_) (fun c5 => ?_)
          · refine VE_iconst 0 dX5_fooled_53 (k := ?_)
            refine VE_iadd dX5_fooled_54 ?_
            refine VE_istore_n (ls' := [(2, vI (x2 + 0)), (0, vR 23), (1, vI x1), (3, vI x3)]) dX5_fooled_55 ?_
            refine VE_iinc 3 (x3 + 1) (ls' := [(3, vI (x3 + 1)), (2, vI (x2 + 0)), (0, vR 23), (1, vI x1)]) dX5_fooled_56 ?_
            refine VE_goto 4 dX5_fooled_59 ?_
            exact VE_sub [2, 3, 1, 0] rfl (((((h.2 c1).2 c2).2.2 c3).2 c4).2.1 c5)
          · refine VE_iconst 1 dX5_fooled_49 (k := ?_)
            refine VE_goto 54 dX5_fooled_50 ?_
            refine VE_iadd dX5_fooled_54 ?_
            refine VE_istore_n (ls' := [(2, vI (x2 + 1)), (0, vR 23), (1, vI x1), (3, vI x3)]) dX5_fooled_55 ?_
            refine VE_iinc 3 (x3 + 1) (ls' := [(3, vI (x3 + 1)), (2, vI (x2 + 1)), (0, vR 23), (1, vI x1)]) dX5_fooled_56 ?_
            refine VE_goto 4 dX5_fooled_59 ?_
            exact VE_sub [2, 3, 1, 0] rfl (((((h.2 c1).2 c2).2.2 c3).2 c4).2.2 c5)
theorem dX5_layRow_0 : decode cX5_layRow 0 = .ok (.iload_n 1, 1) := by decide +kernel
theorem dX5_layRow_1 : decode cX5_layRow 1 = .ok (.istore_n 3, 1) := by decide +kernel
theorem dX5_layRow_2 : decode cX5_layRow 2 = .ok (.iload_n 2, 1) := by decide +kernel
theorem dX5_layRow_3 : decode cX5_layRow 3 = .ok (.iconst 1, 1) := by decide +kernel
theorem dX5_layRow_4 : decode cX5_layRow 4 = .ok (.isub, 1) := by decide +kernel
theorem dX5_layRow_5 : decode cX5_layRow 5 = .ok (.istore 4, 2) := by decide +kernel
theorem dX5_layRow_7 : decode cX5_layRow 7 = .ok (.iload 4, 2) := by decide +kernel
theorem dX5_layRow_9 : decode cX5_layRow 9 = .ok (.ifCond .lt 29, 3) := by decide +kernel
theorem dX5_layRow_12 : decode cX5_layRow 12 = .ok (.aload_n 0, 1) := by decide +kernel
theorem dX5_layRow_13 : decode cX5_layRow 13 = .ok (.getfield 37, 3) := by decide +kernel
theorem dX5_layRow_16 : decode cX5_layRow 16 = .ok (.iload 4, 2) := by decide +kernel
theorem dX5_layRow_18 : decode cX5_layRow 18 = .ok (.iload_n 3, 1) := by decide +kernel
theorem dX5_layRow_19 : decode cX5_layRow 19 = .ok (.aload_n 0, 1) := by decide +kernel
theorem dX5_layRow_20 : decode cX5_layRow 20 = .ok (.getfield 59, 3) := by decide +kernel
theorem dX5_layRow_23 : decode cX5_layRow 23 = .ok (.irem, 1) := by decide +kernel
theorem dX5_layRow_24 : decode cX5_layRow 24 = .ok (.iastore, 1) := by decide +kernel
theorem dX5_layRow_25 : decode cX5_layRow 25 = .ok (.iload_n 3, 1) := by decide +kernel
theorem dX5_layRow_26 : decode cX5_layRow 26 = .ok (.aload_n 0, 1) := by decide +kernel
theorem dX5_layRow_27 : decode cX5_layRow 27 = .ok (.getfield 59, 3) := by decide +kernel
theorem dX5_layRow_30 : decode cX5_layRow 30 = .ok (.idiv, 1) := by decide +kernel
theorem dX5_layRow_31 : decode cX5_layRow 31 = .ok (.istore_n 3, 1) := by decide +kernel
theorem dX5_layRow_32 : decode cX5_layRow 32 = .ok (.iinc 4 (-1), 3) := by decide +kernel
theorem dX5_layRow_35 : decode cX5_layRow 35 = .ok (.goto (-28), 3) := by decide +kernel
theorem dX5_layRow_38 : decode cX5_layRow 38 = .ok (.aload_n 0, 1) := by decide +kernel
theorem dX5_layRow_39 : decode cX5_layRow 39 = .ok (.iload_n 2, 1) := by decide +kernel
theorem dX5_layRow_40 : decode cX5_layRow 40 = .ok (.putfield 113, 3) := by decide +kernel
theorem dX5_layRow_43 : decode cX5_layRow 43 = .ok (.return_, 1) := by decide +kernel
set_option maxRecDepth 20000 in
theorem S_X5_layRow_0 {g : GG} {d : Nat} {F : St → Prop} (a1 : Int32) (a2 : Int32) (σ : St) (h : VM g d M_X5_layRow (qV F) 7 [(0, vR 23), (1, vI a1), (2, vI a2), (3, vI a1), (4, vI (a2 - 1))] [] σ) : VM g d M_X5_layRow (qV F) 0 [(0, vR 23), (1, vI a1), (2, vI a2)] [] σ := by
  refine VE_iload_n 1 dX5_layRow_0 (k := ?_)
  refine VE_istore_n (ls' := [(3, vI a1), (0, vR 23), (1, vI a1), (2, vI a2)]) dX5_layRow_1 ?_
  refine VE_iload_n 3 dX5_layRow_2 (k := ?_)
  refine VE_iconst 1 dX5_layRow_3 (k := ?_)
  refine VE_isub dX5_layRow_4 ?_
  refine VE_istore (ls' := [(4, vI (a2 - 1)), (3, vI a1), (0, vR 23), (1, vI a1), (2, vI a2)]) dX5_layRow_5 ?_
  exact VE_sub [2, 3, 4, 1, 0] rfl h
set_option maxRecDepth 20000 in
theorem S_X5_layRow_7 {g : GG} {d : Nat} {F : St → Prop} (x1 : Int32) (x2 : Int32) (x3 : Int32) (x4 : Int32) (σ : St) (h : ((x4 < 0 → F (sU σ 23 15 x2)) ∧ (¬ x4 < 0 → (¬ (σ 23 5) = 0 ∧ (vp_in x4 20 ∧ (¬ (σ 23 5) = 0 ∧ VM g d M_X5_layRow (qV F) 7 [(0, vR 23), (1, vI x1), (2, vI x2), (3, vI (x3 / (σ 23 5))), (4, vI (x4 + (-1)))] [] (sU σ 33 x4.toNatClampNeg (x3 - x3 / (σ 23 5) * (σ 23 5))))))))) : VM g d M_X5_layRow (qV F) 7 [(0, vR 23), (1, vI x1), (2, vI x2), (3, vI x3), (4, vI x4)] [] σ := by
  refine VE_iload 4 dX5_layRow_7 (k := ?_)
  refine VE_if_lt 38 dX5_layRow_9 (fun c1 => ?_) (fun c1 => ?_)
  · refine VE_aload_n 0 dX5_layRow_38 (k := ?_)
    refine VE_iload_n 2 dX5_layRow_39 (k := ?_)
    refine VE_put dX5_layRow_40 fl_X5_113 ?_
    exact VM_vret dX5_layRow_43 (h.1 c1)
  · refine VE_aload_n 0 dX5_layRow_12 (k := ?_)
    refine VE_getR 33 dX5_layRow_13 fl_X5_37 ?_
    refine VE_iload 4 dX5_layRow_16 (k := ?_)
    refine VE_iload_n 3 dX5_layRow_18 (k := ?_)
    refine VE_aload_n 0 dX5_layRow_19 (k := ?_)
    refine VE_getI dX5_layRow_20 fl_X5_59 ?_
    refine VE_irem dX5_layRow_23 (h.2 c1).1 ?_
    refine VE_iast dX5_layRow_24 (h.2 c1).2.1 ?_
    refine VE_iload_n 3 dX5_layRow_25 (k := ?_)
    refine VE_aload_n 0 dX5_layRow_26 (k := ?_)
    refine VE_getI dX5_layRow_27 fl_X5_59 ?_
    refine VE_idiv dX5_layRow_30 (h.2 c1).2.2.1 ?_
    refine VE_istore_n (ls' := [(3, vI (x3 / (σ 23 5))), (0, vR 23), (1, vI x1), (2, vI x2), (4, vI x4)]) dX5_layRow_31 ?_
    refine VE_iinc 4 (x4 + (-1)) (ls' := [(4, vI (x4 + (-1))), (3, vI (x3 / (σ 23 5))), (0, vR 23), (1, vI x1), (2, vI x2)]) dX5_layRow_32 ?_
    refine VE_goto 7 dX5_layRow_35 ?_
    exact VE_sub [2, 3, 4, 1, 0] rfl (h.2 c1).2.2.2
theorem dX5_findPlan_0 : decode cX5_findPlan 0 = .ok (.aload_n 0, 1) := by decide +kernel
theorem dX5_findPlan_1 : decode cX5_findPlan 1 = .ok (.bipush (-9), 2) := by decide +kernel
theorem dX5_findPlan_3 : decode cX5_findPlan 3 = .ok (.putfield 153, 3) := by decide +kernel
theorem dX5_findPlan_6 : decode cX5_findPlan 6 = .ok (.iconst 1, 1) := by decide +kernel
theorem dX5_findPlan_7 : decode cX5_findPlan 7 = .ok (.istore_n 3, 1) := by decide +kernel
theorem dX5_findPlan_8 : decode cX5_findPlan 8 = .ok (.iconst 0, 1) := by decide +kernel
theorem dX5_findPlan_9 : decode cX5_findPlan 9 = .ok (.istore 4, 2) := by decide +kernel
theorem dX5_findPlan_11 : decode cX5_findPlan 11 = .ok (.iload 4, 2) := by decide +kernel
theorem dX5_findPlan_13 : decode cX5_findPlan 13 = .ok (.bipush 6, 2) := by decide +kernel
theorem dX5_findPlan_15 : decode cX5_findPlan 15 = .ok (.if_icmp .gt 65, 3) := by decide +kernel
theorem dX5_findPlan_18 : decode cX5_findPlan 18 = .ok (.iconst 0, 1) := by decide +kernel
theorem dX5_findPlan_19 : decode cX5_findPlan 19 = .ok (.istore 5, 2) := by decide +kernel
theorem dX5_findPlan_21 : decode cX5_findPlan 21 = .ok (.iload 5, 2) := by decide +kernel
theorem dX5_findPlan_23 : decode cX5_findPlan 23 = .ok (.iload_n 3, 1) := by decide +kernel
theorem dX5_findPlan_24 : decode cX5_findPlan 24 = .ok (.if_icmp .ge 43, 3) := by decide +kernel
theorem dX5_findPlan_27 : decode cX5_findPlan 27 = .ok (.aload_n 0, 1) := by decide +kernel
theorem dX5_findPlan_28 : decode cX5_findPlan 28 = .ok (.iload 5, 2) := by decide +kernel
theorem dX5_findPlan_30 : decode cX5_findPlan 30 = .ok (.iload 4, 2) := by decide +kernel
theorem dX5_findPlan_32 : decode cX5_findPlan 32 = .ok (.invokevirtual 156, 3) := by decide +kernel
theorem dX5_findPlan_35 : decode cX5_findPlan 35 = .ok (.aload_n 0, 1) := by decide +kernel
theorem dX5_findPlan_36 : decode cX5_findPlan 36 = .ok (.invokevirtual 131, 3) := by decide +kernel
theorem dX5_findPlan_39 : decode cX5_findPlan 39 = .ok (.bipush (-9), 2) := by decide +kernel
theorem dX5_findPlan_41 : decode cX5_findPlan 41 = .ok (.if_icmp .ne 20, 3) := by decide +kernel
theorem dX5_findPlan_44 : decode cX5_findPlan 44 = .ok (.aload_n 0, 1) := by decide +kernel
theorem dX5_findPlan_45 : decode cX5_findPlan 45 = .ok (.getfield 31, 3) := by decide +kernel
theorem dX5_findPlan_48 : decode cX5_findPlan 48 = .ok (.iload_n 1, 1) := by decide +kernel
theorem dX5_findPlan_49 : decode cX5_findPlan 49 = .ok (.iaload, 1) := by decide +kernel
theorem dX5_findPlan_50 : decode cX5_findPlan 50 = .ok (.iload_n 2, 1) := by decide +kernel
theorem dX5_findPlan_51 : decode cX5_findPlan 51 = .ok (.if_icmp .ne 10, 3) := by decide +kernel
theorem dX5_findPlan_54 : decode cX5_findPlan 54 = .ok (.aload_n 0, 1) := by decide +kernel
theorem dX5_findPlan_55 : decode cX5_findPlan 55 = .ok (.iload 4, 2) := by decide +kernel
theorem dX5_findPlan_57 : decode cX5_findPlan 57 = .ok (.putfield 153, 3) := by decide +kernel
theorem dX5_findPlan_60 : decode cX5_findPlan 60 = .ok (.return_, 1) := by decide +kernel
theorem dX5_findPlan_61 : decode cX5_findPlan 61 = .ok (.iinc 5 1, 3) := by decide +kernel
theorem dX5_findPlan_64 : decode cX5_findPlan 64 = .ok (.goto (-43), 3) := by decide +kernel
theorem dX5_findPlan_67 : decode cX5_findPlan 67 = .ok (.iload_n 3, 1) := by decide +kernel
theorem dX5_findPlan_68 : decode cX5_findPlan 68 = .ok (.aload_n 0, 1) := by decide +kernel
theorem dX5_findPlan_69 : decode cX5_findPlan 69 = .ok (.getfield 59, 3) := by decide +kernel
theorem dX5_findPlan_72 : decode cX5_findPlan 72 = .ok (.imul, 1) := by decide +kernel
theorem dX5_findPlan_73 : decode cX5_findPlan 73 = .ok (.istore_n 3, 1) := by decide +kernel
theorem dX5_findPlan_74 : decode cX5_findPlan 74 = .ok (.iinc 4 1, 3) := by decide +kernel
theorem dX5_findPlan_77 : decode cX5_findPlan 77 = .ok (.goto (-66), 3) := by decide +kernel
theorem dX5_findPlan_80 : decode cX5_findPlan 80 = .ok (.return_, 1) := by decide +kernel
set_option maxRecDepth 20000 in
theorem S_X5_findPlan_0 {g : GG} {d : Nat} {F : St → Prop} (a1 : Int32) (a2 : Int32) (σ : St) (h : VM g (d + 1) M_X5_findPlan (qV F) 11 [(0, vR 23), (1, vI a1), (2, vI a2), (3, vI 1), (4, vI 0)] [] (sU σ 23 17 (-9))) : VM g (d + 1) M_X5_findPlan (qV F) 0 [(0, vR 23), (1, vI a1), (2, vI a2)] [] σ := by
  refine VE_aload_n 0 dX5_findPlan_0 (k := ?_)
  refine VE_bipush (-9) dX5_findPlan_1 (k := ?_)
  refine VE_put dX5_findPlan_3 fl_X5_153 ?_
  refine VE_iconst 1 dX5_findPlan_6 (k := ?_)
  refine VE_istore_n (ls' := [(3, vI 1), (0, vR 23), (1, vI a1), (2, vI a2)]) dX5_findPlan_7 ?_
  refine VE_iconst 0 dX5_findPlan_8 (k := ?_)
  refine VE_istore (ls' := [(4, vI 0), (3, vI 1), (0, vR 23), (1, vI a1), (2, vI a2)]) dX5_findPlan_9 ?_
  exact VE_sub [2, 3, 4, 1, 0] rfl h
set_option maxRecDepth 20000 in
theorem S_X5_findPlan_11 {g : GG} {d : Nat} {F : St → Prop} (x1 : Int32) (x2 : Int32) (x3 : Int32) (x4 : Int32) (σ : St) (h : ((6 < x4 → F σ) ∧ (¬ 6 < x4 → VM g (d + 1) M_X5_findPlan (qV F) 21 [(0, vR 23), (1, vI x1), (2, vI x2), (3, vI x3), (4, vI x4), (5, vI 0)] [] σ))) : VM g (d + 1) M_X5_findPlan (qV F) 11 [(0, vR 23), (1, vI x1), (2, vI x2), (3, vI x3), (4, vI x4)] [] σ := by
  refine VE_iload 4 dX5_findPlan_11 (k := ?_)
  refine VE_bipush 6 dX5_findPlan_13 (k := ?_)
  refine VE_icmp_gt 80 dX5_findPlan_15 (fun c1 => ?_) (fun c1 => ?_)
  · exact VM_vret dX5_findPlan_80 (h.1 c1)
  · refine VE_iconst 0 dX5_findPlan_18 (k := ?_)
    refine VE_istore (ls' := [(5, vI 0), (0, vR 23), (1, vI x1), (2, vI x2), (3, vI x3), (4, vI x4)]) dX5_findPlan_19 ?_
    exact VE_sub [1, 2, 3, 4, 5, 0] rfl (h.2 c1)
set_option maxRecDepth 20000 in
theorem S_X5_findPlan_21 {g : GG} {d : Nat} {F : St → Prop} (x1 : Int32) (x2 : Int32) (x3 : Int32) (x4 : Int32) (x5 : Int32) (σ : St) (h : ((x3 ≤ x5 → VM g (d + 1) M_X5_findPlan (qV F) 11 [(0, vR 23), (1, vI x1), (2, vI x2), (3, vI (x3 * (σ 23 5))), (4, vI (x4 + 1))] [] σ) ∧ (¬ x3 ≤ x5 → (ME g d M_X5_layRow [vR 23, vI x5, vI x4] σ (qV (fun σ3 => (ME g d M_X5_go [vR 23] σ3 (qI (fun r5 σ6 => ((¬ r5 = (-9) → VM g (d + 1) M_X5_findPlan (qV F) 21 [(0, vR 23), (1, vI x1), (2, vI x2), (3, vI x3), (4, vI x4), (5, vI (x5 + 1))] [] σ6) ∧ (r5 = (-9) → (vp_in x1 5 ∧ ((¬ (σ6 31 x1.toNatClampNeg) = x2 → VM g (d + 1) M_X5_findPlan (qV F) 21 [(0, vR 23), (1, vI x1), (2, vI x2), (3, vI x3), (4, vI x4), (5, vI (x5 + 1))] [] σ6) ∧ ((σ6 31 x1.toNatClampNeg) = x2 → F (sU σ6 23 17 x4))))))))))))))) : VM g (d + 1) M_X5_findPlan (qV F) 21 [(0, vR 23), (1, vI x1), (2, vI x2), (3, vI x3), (4, vI x4), (5, vI x5)] [] σ := by
  refine VE_iload 5 dX5_findPlan_21 (k := ?_)
  refine VE_iload_n 3 dX5_findPlan_23 (k := ?_)
  refine VE_icmp_ge 67 dX5_findPlan_24 (fun c1 => ?_) (fun c1 => ?_)
  · refine VE_iload_n 3 dX5_findPlan_67 (k := ?_)
    refine VE_aload_n 0 dX5_findPlan_68 (k := ?_)
    refine VE_getI dX5_findPlan_69 fl_X5_59 ?_
    refine VE_imul dX5_findPlan_72 ?_
    refine VE_istore_n (ls' := [(3, vI (x3 * (σ 23 5))), (0, vR 23), (1, vI x1), (2, vI x2), (4, vI x4), (5, vI x5)]) dX5_findPlan_73 ?_
    refine VE_iinc 4 (x4 + 1) (ls' := [(4, vI (x4 + 1)), (3, vI (x3 * (σ 23 5))), (0, vR 23), (1, vI x1), (2, vI x2), (5, vI x5)]) dX5_findPlan_74 ?_
    refine VE_goto 11 dX5_findPlan_77 ?_
    exact VE_sub [2, 3, 4, 1, 0] rfl (h.1 c1)
  · refine VE_aload_n 0 dX5_findPlan_27 (k := ?_)
    refine VE_iload 5 dX5_findPlan_28 (k := ?_)
    refine VE_iload 4 dX5_findPlan_30 (k := ?_)
    refine VE_cVv [vI x5, vI x4] dX5_findPlan_32 ml_X5_156 (h.2 c1) (fun σ3 h4 => ?_) (rok_D d)
    refine VE_aload_n 0 dX5_findPlan_35 (k := ?_)
    refine VE_cVi [] dX5_findPlan_36 ml_X5_131 h4 (fun r5 σ6 h7 => ?_) (rok_D d)
    refine VE_bipush (-9) dX5_findPlan_39 (k := ?_)
    refine VE_icmp_ne 61 dX5_findPlan_41 (fun c8 => ?_) (fun c8 => ?_)
    · refine VE_iinc 5 (x5 + 1) (ls' := [(5, vI (x5 + 1)), (0, vR 23), (1, vI x1), (2, vI x2), (3, vI x3), (4, vI x4)]) dX5_findPlan_61 ?_
      refine VE_goto 21 dX5_findPlan_64 ?_
      exact VE_sub [1, 2, 3, 4, 5, 0] rfl (h7.1 c8)
    · refine VE_aload_n 0 dX5_findPlan_44 (k := ?_)
      refine VE_getR 31 dX5_findPlan_45 fl_X5_31 ?_
      refine VE_iload_n 1 dX5_findPlan_48 (k := ?_)
      refine VE_iald dX5_findPlan_49 (h7.2 c8).1 ?_
      refine VE_iload_n 2 dX5_findPlan_50 (k := ?_)
      refine VE_icmp_ne 61 dX5_findPlan_51 (fun c9 => ?_) (fun c9 => ?_)
      · refine VE_iinc 5 (x5 + 1) (ls' := [(5, vI (x5 + 1)), (0, vR 23), (1, vI x1), (2, vI x2), (3, vI x3), (4, vI x4)]) dX5_findPlan_61 ?_
        refine VE_goto 21 dX5_findPlan_64 ?_
        exact VE_sub [1, 2, 3, 4, 5, 0] rfl ((h7.2 c8).2.1 c9)
      · refine VE_aload_n 0 dX5_findPlan_54 (k := ?_)
        refine VE_iload 4 dX5_findPlan_55 (k := ?_)
        refine VE_put dX5_findPlan_57 fl_X5_153 ?_
        exact VM_vret dX5_findPlan_60 ((h7.2 c8).2.2 c9)
theorem dX5_plan_0 : decode cX5_plan 0 = .ok (.aload_n 0, 1) := by decide +kernel
theorem dX5_plan_1 : decode cX5_plan 1 = .ok (.iload_n 1, 1) := by decide +kernel
theorem dX5_plan_2 : decode cX5_plan 2 = .ok (.invokevirtual 100, 3) := by decide +kernel
theorem dX5_plan_5 : decode cX5_plan 5 = .ok (.ifCond .eq 11, 3) := by decide +kernel
theorem dX5_plan_8 : decode cX5_plan 8 = .ok (.aload_n 0, 1) := by decide +kernel
theorem dX5_plan_9 : decode cX5_plan 9 = .ok (.iload_n 2, 1) := by decide +kernel
theorem dX5_plan_10 : decode cX5_plan 10 = .ok (.invokevirtual 100, 3) := by decide +kernel
theorem dX5_plan_13 : decode cX5_plan 13 = .ok (.ifCond .ne 5, 3) := by decide +kernel
theorem dX5_plan_16 : decode cX5_plan 16 = .ok (.iconst (-1), 1) := by decide +kernel
theorem dX5_plan_17 : decode cX5_plan 17 = .ok (.ireturn, 1) := by decide +kernel
theorem dX5_plan_18 : decode cX5_plan 18 = .ok (.iload_n 3, 1) := by decide +kernel
theorem dX5_plan_19 : decode cX5_plan 19 = .ok (.iconst (-1), 1) := by decide +kernel
theorem dX5_plan_20 : decode cX5_plan 20 = .ok (.iconst 5, 1) := by decide +kernel
theorem dX5_plan_21 : decode cX5_plan 21 = .ok (.invokestatic 55, 3) := by decide +kernel
theorem dX5_plan_24 : decode cX5_plan 24 = .ok (.ifCond .ne 6, 3) := by decide +kernel
theorem dX5_plan_27 : decode cX5_plan 27 = .ok (.bipush (-2), 2) := by decide +kernel
theorem dX5_plan_29 : decode cX5_plan 29 = .ok (.ireturn, 1) := by decide +kernel
theorem dX5_plan_30 : decode cX5_plan 30 = .ok (.aload_n 0, 1) := by decide +kernel
theorem dX5_plan_31 : decode cX5_plan 31 = .ok (.iload_n 1, 1) := by decide +kernel
theorem dX5_plan_32 : decode cX5_plan 32 = .ok (.iload_n 2, 1) := by decide +kernel
theorem dX5_plan_33 : decode cX5_plan 33 = .ok (.invokevirtual 160, 3) := by decide +kernel
theorem dX5_plan_36 : decode cX5_plan 36 = .ok (.iload_n 3, 1) := by decide +kernel
theorem dX5_plan_37 : decode cX5_plan 37 = .ok (.iconst (-1), 1) := by decide +kernel
theorem dX5_plan_38 : decode cX5_plan 38 = .ok (.if_icmp .ne 10, 3) := by decide +kernel
theorem dX5_plan_41 : decode cX5_plan 41 = .ok (.aload_n 0, 1) := by decide +kernel
theorem dX5_plan_42 : decode cX5_plan 42 = .ok (.getfield 153, 3) := by decide +kernel
theorem dX5_plan_45 : decode cX5_plan 45 = .ok (.goto 22, 3) := by decide +kernel
theorem dX5_plan_48 : decode cX5_plan 48 = .ok (.iload_n 3, 1) := by decide +kernel
theorem dX5_plan_49 : decode cX5_plan 49 = .ok (.aload_n 0, 1) := by decide +kernel
theorem dX5_plan_50 : decode cX5_plan 50 = .ok (.getfield 153, 3) := by decide +kernel
theorem dX5_plan_53 : decode cX5_plan 53 = .ok (.if_icmp .ge 12, 3) := by decide +kernel
theorem dX5_plan_56 : decode cX5_plan 56 = .ok (.aload_n 0, 1) := by decide +kernel
theorem dX5_plan_57 : decode cX5_plan 57 = .ok (.getfield 37, 3) := by decide +kernel
theorem dX5_plan_60 : decode cX5_plan 60 = .ok (.iload_n 3, 1) := by decide +kernel
theorem dX5_plan_61 : decode cX5_plan 61 = .ok (.iaload, 1) := by decide +kernel
theorem dX5_plan_62 : decode cX5_plan 62 = .ok (.goto 5, 3) := by decide +kernel
theorem dX5_plan_65 : decode cX5_plan 65 = .ok (.bipush (-9), 2) := by decide +kernel
theorem dX5_plan_67 : decode cX5_plan 67 = .ok (.ireturn, 1) := by decide +kernel
set_option maxRecDepth 20000 in
theorem S_X5_plan_0 {g : GG} {d : Nat} {F : Int32 → St → Prop} (a1 : Int32) (a2 : Int32) (a3 : Int32) (σ : St) (h : (ME g d M_X5_isHead [vR 23, vI a1] σ (qI (fun r1 σ2 => ((r1 = 0 → F (-1) σ2) ∧ (¬ r1 = 0 → (ME g d M_X5_isHead [vR 23, vI a2] σ2 (qI (fun r5 σ6 => ((¬ r5 = 0 → (ME g d M_X5_within [vI a3, vI (-1), vI 5] σ6 (qI (fun r9 σ10 => ((¬ r9 = 0 → (ME g d M_X5_findPlan [vR 23, vI a1, vI a2] σ10 (qV (fun σ14 => ((¬ a3 = (-1) → (((σ14 23 17) ≤ a3 → F (-9) σ14) ∧ (¬ (σ14 23 17) ≤ a3 → (vp_in a3 20 ∧ F (σ14 33 a3.toNatClampNeg) σ14)))) ∧ (a3 = (-1) → F (σ14 23 17) σ14)))))) ∧ (r9 = 0 → F (-2) σ10)))))) ∧ (r5 = 0 → F (-1) σ6))))))))))) : VM g (d + 1) M_X5_plan (qI F) 0 [(0, vR 23), (1, vI a1), (2, vI a2), (3, vI a3)] [] σ := by
  refine VE_aload_n 0 dX5_plan_0 (k := ?_)
  refine VE_iload_n 1 dX5_plan_1 (k := ?_)
  refine VE_cVi [vI a1] dX5_plan_2 ml_X5_100 h (fun r1 σ2 h3 => ?_) (rok_D d)
  refine VE_if_eq 16 dX5_plan_5 (fun c4 => ?_) (fun c4 => ?_)
  · refine VE_iconst (-1) dX5_plan_16 (k := ?_)
    exact VM_iret dX5_plan_17 (h3.1 c4)
  · refine VE_aload_n 0 dX5_plan_8 (k := ?_)
    refine VE_iload_n 2 dX5_plan_9 (k := ?_)
    refine VE_cVi [vI a2] dX5_plan_10 ml_X5_100 (h3.2 c4) (fun r5 σ6 h7 => ?_) (rok_D d)
    refine VE_if_ne 18 dX5_plan_13 (fun c8 => ?_) (fun c8 => ?_)
    · refine VE_iload_n 3 dX5_plan_18 (k := ?_)
      refine VE_iconst (-1) dX5_plan_19 (k := ?_)
      refine VE_iconst 5 dX5_plan_20 (k := ?_)
      refine VE_cSi [vI a3, vI (-1), vI 5] dX5_plan_21 ml_X5_55 (h7.1 c8) (fun r9 σ10 h11 => ?_) (rok_D d)
      refine VE_if_ne 30 dX5_plan_24 (fun c12 => ?_) (fun c12 => ?_)
      · refine VE_aload_n 0 dX5_plan_30 (k := ?_)
        refine VE_iload_n 1 dX5_plan_31 (k := ?_)
        refine VE_iload_n 2 dX5_plan_32 (k := ?_)
        refine VE_cVv [vI a1, vI a2] dX5_plan_33 ml_X5_160 (h11.1 c12) (fun σ14 h15 => ?_) (rok_D d)
        refine VE_iload_n 3 dX5_plan_36 (k := ?_)
        refine VE_iconst (-1) dX5_plan_37 (k := ?_)
        refine VE_icmp_ne 48 dX5_plan_38 (fun c16 => ?_) (fun c16 => ?_)
        · refine VE_iload_n 3 dX5_plan_48 (k := ?_)
          refine VE_aload_n 0 dX5_plan_49 (k := ?_)
          refine VE_getI dX5_plan_50 fl_X5_153 ?_
          refine VE_icmp_ge 65 dX5_plan_53 (fun c17 => ?_) (fun c17 => ?_)
          · refine VE_bipush (-9) dX5_plan_65 (k := ?_)
            exact VM_iret dX5_plan_67 ((h15.1 c16).1 c17)
          · refine VE_aload_n 0 dX5_plan_56 (k := ?_)
            refine VE_getR 33 dX5_plan_57 fl_X5_37 ?_
            refine VE_iload_n 3 dX5_plan_60 (k := ?_)
            refine VE_iald dX5_plan_61 ((h15.1 c16).2 c17).1 ?_
            refine VE_goto 67 dX5_plan_62 ?_
            exact VM_iret dX5_plan_67 ((h15.1 c16).2 c17).2
        · refine VE_aload_n 0 dX5_plan_41 (k := ?_)
          refine VE_getI dX5_plan_42 fl_X5_153 ?_
          refine VE_goto 67 dX5_plan_45 ?_
          exact VM_iret dX5_plan_67 (h15.2 c16)
      · refine VE_bipush (-2) dX5_plan_27 (k := ?_)
        exact VM_iret dX5_plan_29 (h11.2 c12)
    · refine VE_iconst (-1) dX5_plan_16 (k := ?_)
      exact VM_iret dX5_plan_17 (h7.2 c8)
theorem dX5_reading_0 : decode cX5_reading 0 = .ok (.aload_n 0, 1) := by decide +kernel
theorem dX5_reading_1 : decode cX5_reading 1 = .ok (.iload_n 2, 1) := by decide +kernel
theorem dX5_reading_2 : decode cX5_reading 2 = .ok (.invokevirtual 100, 3) := by decide +kernel
theorem dX5_reading_5 : decode cX5_reading 5 = .ok (.ifCond .eq 17, 3) := by decide +kernel
theorem dX5_reading_8 : decode cX5_reading 8 = .ok (.iload_n 3, 1) := by decide +kernel
theorem dX5_reading_9 : decode cX5_reading 9 = .ok (.bipush (-9), 2) := by decide +kernel
theorem dX5_reading_11 : decode cX5_reading 11 = .ok (.if_icmp .eq 13, 3) := by decide +kernel
theorem dX5_reading_14 : decode cX5_reading 14 = .ok (.aload_n 0, 1) := by decide +kernel
theorem dX5_reading_15 : decode cX5_reading 15 = .ok (.iload_n 3, 1) := by decide +kernel
theorem dX5_reading_16 : decode cX5_reading 16 = .ok (.invokevirtual 100, 3) := by decide +kernel
theorem dX5_reading_19 : decode cX5_reading 19 = .ok (.ifCond .ne 5, 3) := by decide +kernel
theorem dX5_reading_22 : decode cX5_reading 22 = .ok (.iconst (-1), 1) := by decide +kernel
theorem dX5_reading_23 : decode cX5_reading 23 = .ok (.ireturn, 1) := by decide +kernel
theorem dX5_reading_24 : decode cX5_reading 24 = .ok (.iload_n 1, 1) := by decide +kernel
theorem dX5_reading_25 : decode cX5_reading 25 = .ok (.iconst 0, 1) := by decide +kernel
theorem dX5_reading_26 : decode cX5_reading 26 = .ok (.bipush 20, 2) := by decide +kernel
theorem dX5_reading_28 : decode cX5_reading 28 = .ok (.invokestatic 55, 3) := by decide +kernel
theorem dX5_reading_31 : decode cX5_reading 31 = .ok (.ifCond .ne 6, 3) := by decide +kernel
theorem dX5_reading_34 : decode cX5_reading 34 = .ok (.bipush (-2), 2) := by decide +kernel
theorem dX5_reading_36 : decode cX5_reading 36 = .ok (.ireturn, 1) := by decide +kernel
theorem dX5_reading_37 : decode cX5_reading 37 = .ok (.aload_n 0, 1) := by decide +kernel
theorem dX5_reading_38 : decode cX5_reading 38 = .ok (.getfield 86, 3) := by decide +kernel
theorem dX5_reading_41 : decode cX5_reading 41 = .ok (.bipush 8, 2) := by decide +kernel
theorem dX5_reading_43 : decode cX5_reading 43 = .ok (.if_icmp .ne 6, 3) := by decide +kernel
theorem dX5_reading_46 : decode cX5_reading 46 = .ok (.bipush (-4), 2) := by decide +kernel
theorem dX5_reading_48 : decode cX5_reading 48 = .ok (.ireturn, 1) := by decide +kernel
theorem dX5_reading_49 : decode cX5_reading 49 = .ok (.aload_n 0, 1) := by decide +kernel
theorem dX5_reading_50 : decode cX5_reading 50 = .ok (.getfield 40, 3) := by decide +kernel
theorem dX5_reading_53 : decode cX5_reading 53 = .ok (.aload_n 0, 1) := by decide +kernel
theorem dX5_reading_54 : decode cX5_reading 54 = .ok (.getfield 86, 3) := by decide +kernel
theorem dX5_reading_57 : decode cX5_reading 57 = .ok (.iload_n 1, 1) := by decide +kernel
theorem dX5_reading_58 : decode cX5_reading 58 = .ok (.iastore, 1) := by decide +kernel
theorem dX5_reading_59 : decode cX5_reading 59 = .ok (.aload_n 0, 1) := by decide +kernel
theorem dX5_reading_60 : decode cX5_reading 60 = .ok (.getfield 43, 3) := by decide +kernel
theorem dX5_reading_63 : decode cX5_reading 63 = .ok (.aload_n 0, 1) := by decide +kernel
theorem dX5_reading_64 : decode cX5_reading 64 = .ok (.getfield 86, 3) := by decide +kernel
theorem dX5_reading_67 : decode cX5_reading 67 = .ok (.iload_n 2, 1) := by decide +kernel
theorem dX5_reading_68 : decode cX5_reading 68 = .ok (.iastore, 1) := by decide +kernel
theorem dX5_reading_69 : decode cX5_reading 69 = .ok (.aload_n 0, 1) := by decide +kernel
theorem dX5_reading_70 : decode cX5_reading 70 = .ok (.getfield 46, 3) := by decide +kernel
theorem dX5_reading_73 : decode cX5_reading 73 = .ok (.aload_n 0, 1) := by decide +kernel
theorem dX5_reading_74 : decode cX5_reading 74 = .ok (.getfield 86, 3) := by decide +kernel
theorem dX5_reading_77 : decode cX5_reading 77 = .ok (.iload_n 3, 1) := by decide +kernel
theorem dX5_reading_78 : decode cX5_reading 78 = .ok (.iastore, 1) := by decide +kernel
theorem dX5_reading_79 : decode cX5_reading 79 = .ok (.aload_n 0, 1) := by decide +kernel
theorem dX5_reading_80 : decode cX5_reading 80 = .ok (.dup, 1) := by decide +kernel
theorem dX5_reading_81 : decode cX5_reading 81 = .ok (.getfield 86, 3) := by decide +kernel
theorem dX5_reading_84 : decode cX5_reading 84 = .ok (.iconst 1, 1) := by decide +kernel
theorem dX5_reading_85 : decode cX5_reading 85 = .ok (.iadd, 1) := by decide +kernel
theorem dX5_reading_86 : decode cX5_reading 86 = .ok (.putfield 86, 3) := by decide +kernel
theorem dX5_reading_89 : decode cX5_reading 89 = .ok (.aload_n 0, 1) := by decide +kernel
theorem dX5_reading_90 : decode cX5_reading 90 = .ok (.getfield 86, 3) := by decide +kernel
theorem dX5_reading_93 : decode cX5_reading 93 = .ok (.iconst 1, 1) := by decide +kernel
theorem dX5_reading_94 : decode cX5_reading 94 = .ok (.isub, 1) := by decide +kernel
theorem dX5_reading_95 : decode cX5_reading 95 = .ok (.ireturn, 1) := by decide +kernel
set_option maxRecDepth 20000 in
theorem S_X5_reading_0 {g : GG} {d : Nat} {F : Int32 → St → Prop} (a1 : Int32) (a2 : Int32) (a3 : Int32) (σ : St) (h : (ME g d M_X5_isHead [vR 23, vI a2] σ (qI (fun r1 σ2 => ((r1 = 0 → F (-1) σ2) ∧ (¬ r1 = 0 → ((a3 = (-9) → (ME g d M_X5_within [vI a1, vI 0, vI 20] σ2 (qI (fun r6 σ7 => ((¬ r6 = 0 → ((¬ (σ7 23 18) = 8 → (vp_in (σ7 23 18) 8 ∧ F (((σ7 23 18) + 1) - 1) (sU (sU (sU (sU σ7 34 ((σ7 23 18).toNatClampNeg) a1) 35 ((σ7 23 18).toNatClampNeg) a2) 36 ((σ7 23 18).toNatClampNeg) a3) 23 18 ((σ7 23 18) + 1)))) ∧ ((σ7 23 18) = 8 → F (-4) σ7))) ∧ (r6 = 0 → F (-2) σ7)))))) ∧ (¬ a3 = (-9) → (ME g d M_X5_isHead [vR 23, vI a3] σ2 (qI (fun r11 σ12 => ((¬ r11 = 0 → (ME g d M_X5_within [vI a1, vI 0, vI 20] σ12 (qI (fun r15 σ16 => ((¬ r15 = 0 → ((¬ (σ16 23 18) = 8 → (vp_in (σ16 23 18) 8 ∧ F (((σ16 23 18) + 1) - 1) (sU (sU (sU (sU σ16 34 ((σ16 23 18).toNatClampNeg) a1) 35 ((σ16 23 18).toNatClampNeg) a2) 36 ((σ16 23 18).toNatClampNeg) a3) 23 18 ((σ16 23 18) + 1)))) ∧ ((σ16 23 18) = 8 → F (-4) σ16))) ∧ (r15 = 0 → F (-2) σ16)))))) ∧ (r11 = 0 → F (-1) σ12))))))))))))) : VM g (d + 1) M_X5_reading (qI F) 0 [(0, vR 23), (1, vI a1), (2, vI a2), (3, vI a3)] [] σ := by
  refine VE_aload_n 0 dX5_reading_0 (k := ?_)
  refine VE_iload_n 2 dX5_reading_1 (k := ?_)
  refine VE_cVi [vI a2] dX5_reading_2 ml_X5_100 h (fun r1 σ2 h3 => ?_) (rok_D d)
  refine VE_if_eq 22 dX5_reading_5 (fun c4 => ?_) (fun c4 => ?_)
  · refine VE_iconst (-1) dX5_reading_22 (k := ?_)
    exact VM_iret dX5_reading_23 (h3.1 c4)
  · refine VE_iload_n 3 dX5_reading_8 (k := ?_)
    refine VE_bipush (-9) dX5_reading_9 (k := ?_)
    refine VE_icmp_eq 24 dX5_reading_11 (fun c5 => ?_) (fun c5 => ?_)
    · refine VE_iload_n 1 dX5_reading_24 (k := ?_)
      refine VE_iconst 0 dX5_reading_25 (k := ?_)
      refine VE_bipush 20 dX5_reading_26 (k := ?_)
      refine VE_cSi [vI a1, vI 0, vI 20] dX5_reading_28 ml_X5_55 ((h3.2 c4).1 c5) (fun r6 σ7 h8 => ?_) (rok_D d)
      refine VE_if_ne 37 dX5_reading_31 (fun c9 => ?_) (fun c9 => ?_)
      · refine VE_aload_n 0 dX5_reading_37 (k := ?_)
        refine VE_getI dX5_reading_38 fl_X5_86 ?_
        refine VE_bipush 8 dX5_reading_41 (k := ?_)
        refine VE_icmp_ne 49 dX5_reading_43 (fun c10 => ?_) (fun c10 => ?_)
        · refine VE_aload_n 0 dX5_reading_49 (k := ?_)
          refine VE_getR 34 dX5_reading_50 fl_X5_40 ?_
          refine VE_aload_n 0 dX5_reading_53 (k := ?_)
          refine VE_getI dX5_reading_54 fl_X5_86 ?_
          refine VE_iload_n 1 dX5_reading_57 (k := ?_)
          refine VE_iast dX5_reading_58 ((h8.1 c9).1 c10).1 ?_
          refine VE_aload_n 0 dX5_reading_59 (k := ?_)
          refine VE_getR 35 dX5_reading_60 fl_X5_43 ?_
          refine VE_aload_n 0 dX5_reading_63 (k := ?_)
          refine VE_getI dX5_reading_64 fl_X5_86 ?_
          refine VE_iload_n 2 dX5_reading_67 (k := ?_)
          refine VE_iast dX5_reading_68 ((h8.1 c9).1 c10).1 ?_
          refine VE_aload_n 0 dX5_reading_69 (k := ?_)
          refine VE_getR 36 dX5_reading_70 fl_X5_46 ?_
          refine VE_aload_n 0 dX5_reading_73 (k := ?_)
          refine VE_getI dX5_reading_74 fl_X5_86 ?_
          refine VE_iload_n 3 dX5_reading_77 (k := ?_)
          refine VE_iast dX5_reading_78 ((h8.1 c9).1 c10).1 ?_
          refine VE_aload_n 0 dX5_reading_79 (k := ?_)
          refine VE_dup dX5_reading_80 (k := ?_)
          refine VE_getI dX5_reading_81 fl_X5_86 ?_
          refine VE_iconst 1 dX5_reading_84 (k := ?_)
          refine VE_iadd dX5_reading_85 ?_
          refine VE_put dX5_reading_86 fl_X5_86 ?_
          refine VE_aload_n 0 dX5_reading_89 (k := ?_)
          refine VE_getI dX5_reading_90 fl_X5_86 ?_
          refine VE_iconst 1 dX5_reading_93 (k := ?_)
          refine VE_isub dX5_reading_94 ?_
          exact VM_iret dX5_reading_95 ((h8.1 c9).1 c10).2
        · refine VE_bipush (-4) dX5_reading_46 (k := ?_)
          exact VM_iret dX5_reading_48 ((h8.1 c9).2 c10)
      · refine VE_bipush (-2) dX5_reading_34 (k := ?_)
        exact VM_iret dX5_reading_36 (h8.2 c9)
    · refine VE_aload_n 0 dX5_reading_14 (k := ?_)
      refine VE_iload_n 3 dX5_reading_15 (k := ?_)
      refine VE_cVi [vI a3] dX5_reading_16 ml_X5_100 ((h3.2 c4).2 c5) (fun r11 σ12 h13 => ?_) (rok_D d)
      refine VE_if_ne 24 dX5_reading_19 (fun c14 => ?_) (fun c14 => ?_)
      · refine VE_iload_n 1 dX5_reading_24 (k := ?_)
        refine VE_iconst 0 dX5_reading_25 (k := ?_)
        refine VE_bipush 20 dX5_reading_26 (k := ?_)
        refine VE_cSi [vI a1, vI 0, vI 20] dX5_reading_28 ml_X5_55 (h13.1 c14) (fun r15 σ16 h17 => ?_) (rok_D d)
        refine VE_if_ne 37 dX5_reading_31 (fun c18 => ?_) (fun c18 => ?_)
        · refine VE_aload_n 0 dX5_reading_37 (k := ?_)
          refine VE_getI dX5_reading_38 fl_X5_86 ?_
          refine VE_bipush 8 dX5_reading_41 (k := ?_)
          refine VE_icmp_ne 49 dX5_reading_43 (fun c19 => ?_) (fun c19 => ?_)
          · refine VE_aload_n 0 dX5_reading_49 (k := ?_)
            refine VE_getR 34 dX5_reading_50 fl_X5_40 ?_
            refine VE_aload_n 0 dX5_reading_53 (k := ?_)
            refine VE_getI dX5_reading_54 fl_X5_86 ?_
            refine VE_iload_n 1 dX5_reading_57 (k := ?_)
            refine VE_iast dX5_reading_58 ((h17.1 c18).1 c19).1 ?_
            refine VE_aload_n 0 dX5_reading_59 (k := ?_)
            refine VE_getR 35 dX5_reading_60 fl_X5_43 ?_
            refine VE_aload_n 0 dX5_reading_63 (k := ?_)
            refine VE_getI dX5_reading_64 fl_X5_86 ?_
            refine VE_iload_n 2 dX5_reading_67 (k := ?_)
            refine VE_iast dX5_reading_68 ((h17.1 c18).1 c19).1 ?_
            refine VE_aload_n 0 dX5_reading_69 (k := ?_)
            refine VE_getR 36 dX5_reading_70 fl_X5_46 ?_
            refine VE_aload_n 0 dX5_reading_73 (k := ?_)
            refine VE_getI dX5_reading_74 fl_X5_86 ?_
            refine VE_iload_n 3 dX5_reading_77 (k := ?_)
            refine VE_iast dX5_reading_78 ((h17.1 c18).1 c19).1 ?_
            refine VE_aload_n 0 dX5_reading_79 (k := ?_)
            refine VE_dup dX5_reading_80 (k := ?_)
            refine VE_getI dX5_reading_81 fl_X5_86 ?_
            refine VE_iconst 1 dX5_reading_84 (k := ?_)
            refine VE_iadd dX5_reading_85 ?_
            refine VE_put dX5_reading_86 fl_X5_86 ?_
            refine VE_aload_n 0 dX5_reading_89 (k := ?_)
            refine VE_getI dX5_reading_90 fl_X5_86 ?_
            refine VE_iconst 1 dX5_reading_93 (k := ?_)
            refine VE_isub dX5_reading_94 ?_
            exact VM_iret dX5_reading_95 ((h17.1 c18).1 c19).2
          · refine VE_bipush (-4) dX5_reading_46 (k := ?_)
            exact VM_iret dX5_reading_48 ((h17.1 c18).2 c19)
        · refine VE_bipush (-2) dX5_reading_34 (k := ?_)
          exact VM_iret dX5_reading_36 (h17.2 c18)
      · refine VE_iconst (-1) dX5_reading_22 (k := ?_)
        exact VM_iret dX5_reading_23 (h13.2 c14)
theorem dX5_back_0 : decode cX5_back 0 = .ok (.iload_n 1, 1) := by decide +kernel
theorem dX5_back_1 : decode cX5_back 1 = .ok (.iconst 0, 1) := by decide +kernel
theorem dX5_back_2 : decode cX5_back 2 = .ok (.aload_n 0, 1) := by decide +kernel
theorem dX5_back_3 : decode cX5_back 3 = .ok (.getfield 86, 3) := by decide +kernel
theorem dX5_back_6 : decode cX5_back 6 = .ok (.invokestatic 55, 3) := by decide +kernel
theorem dX5_back_9 : decode cX5_back 9 = .ok (.ifCond .ne 6, 3) := by decide +kernel
theorem dX5_back_12 : decode cX5_back 12 = .ok (.bipush (-2), 2) := by decide +kernel
theorem dX5_back_14 : decode cX5_back 14 = .ok (.ireturn, 1) := by decide +kernel
theorem dX5_back_15 : decode cX5_back 15 = .ok (.aload_n 0, 1) := by decide +kernel
theorem dX5_back_16 : decode cX5_back 16 = .ok (.dup, 1) := by decide +kernel
theorem dX5_back_17 : decode cX5_back 17 = .ok (.getfield 86, 3) := by decide +kernel
theorem dX5_back_20 : decode cX5_back 20 = .ok (.iload_n 1, 1) := by decide +kernel
theorem dX5_back_21 : decode cX5_back 21 = .ok (.isub, 1) := by decide +kernel
theorem dX5_back_22 : decode cX5_back 22 = .ok (.putfield 86, 3) := by decide +kernel
theorem dX5_back_25 : decode cX5_back 25 = .ok (.aload_n 0, 1) := by decide +kernel
theorem dX5_back_26 : decode cX5_back 26 = .ok (.getfield 86, 3) := by decide +kernel
theorem dX5_back_29 : decode cX5_back 29 = .ok (.ireturn, 1) := by decide +kernel
set_option maxRecDepth 20000 in
theorem S_X5_back_0 {g : GG} {d : Nat} {F : Int32 → St → Prop} (a1 : Int32) (σ : St) (h : (ME g d M_X5_within [vI a1, vI 0, vI (σ 23 18)] σ (qI (fun r1 σ2 => ((¬ r1 = 0 → F ((σ2 23 18) - a1) (sU σ2 23 18 ((σ2 23 18) - a1))) ∧ (r1 = 0 → F (-2) σ2)))))) : VM g (d + 1) M_X5_back (qI F) 0 [(0, vR 23), (1, vI a1)] [] σ := by
  refine VE_iload_n 1 dX5_back_0 (k := ?_)
  refine VE_iconst 0 dX5_back_1 (k := ?_)
  refine VE_aload_n 0 dX5_back_2 (k := ?_)
  refine VE_getI dX5_back_3 fl_X5_86 ?_
  refine VE_cSi [vI a1, vI 0, vI (σ 23 18)] dX5_back_6 ml_X5_55 h (fun r1 σ2 h3 => ?_) (rok_D d)
  refine VE_if_ne 15 dX5_back_9 (fun c4 => ?_) (fun c4 => ?_)
  · refine VE_aload_n 0 dX5_back_15 (k := ?_)
    refine VE_dup dX5_back_16 (k := ?_)
    refine VE_getI dX5_back_17 fl_X5_86 ?_
    refine VE_iload_n 1 dX5_back_20 (k := ?_)
    refine VE_isub dX5_back_21 ?_
    refine VE_put dX5_back_22 fl_X5_86 ?_
    refine VE_aload_n 0 dX5_back_25 (k := ?_)
    refine VE_getI dX5_back_26 fl_X5_86 ?_
    exact VM_iret dX5_back_29 (h3.1 c4)
  · refine VE_bipush (-2) dX5_back_12 (k := ?_)
    exact VM_iret dX5_back_14 (h3.2 c4)
theorem dX5_areSoBehind_0 : decode cX5_areSoBehind 0 = .ok (.iconst 0, 1) := by decide +kernel
theorem dX5_areSoBehind_1 : decode cX5_areSoBehind 1 = .ok (.istore_n 2, 1) := by decide +kernel
theorem dX5_areSoBehind_2 : decode cX5_areSoBehind 2 = .ok (.iload_n 2, 1) := by decide +kernel
theorem dX5_areSoBehind_3 : decode cX5_areSoBehind 3 = .ok (.aload_n 0, 1) := by decide +kernel
theorem dX5_areSoBehind_4 : decode cX5_areSoBehind 4 = .ok (.getfield 86, 3) := by decide +kernel
theorem dX5_areSoBehind_7 : decode cX5_areSoBehind 7 = .ok (.if_icmp .ge 41, 3) := by decide +kernel
theorem dX5_areSoBehind_10 : decode cX5_areSoBehind 10 = .ok (.aload_n 0, 1) := by decide +kernel
theorem dX5_areSoBehind_11 : decode cX5_areSoBehind 11 = .ok (.getfield 40, 3) := by decide +kernel
theorem dX5_areSoBehind_14 : decode cX5_areSoBehind 14 = .ok (.iload_n 2, 1) := by decide +kernel
theorem dX5_areSoBehind_15 : decode cX5_areSoBehind 15 = .ok (.iaload, 1) := by decide +kernel
theorem dX5_areSoBehind_16 : decode cX5_areSoBehind 16 = .ok (.iload_n 1, 1) := by decide +kernel
theorem dX5_areSoBehind_17 : decode cX5_areSoBehind 17 = .ok (.if_icmp .ne 25, 3) := by decide +kernel
theorem dX5_areSoBehind_20 : decode cX5_areSoBehind 20 = .ok (.aload_n 0, 1) := by decide +kernel
theorem dX5_areSoBehind_21 : decode cX5_areSoBehind 21 = .ok (.getfield 31, 3) := by decide +kernel
theorem dX5_areSoBehind_24 : decode cX5_areSoBehind 24 = .ok (.aload_n 0, 1) := by decide +kernel
theorem dX5_areSoBehind_25 : decode cX5_areSoBehind 25 = .ok (.getfield 43, 3) := by decide +kernel
theorem dX5_areSoBehind_28 : decode cX5_areSoBehind 28 = .ok (.iload_n 2, 1) := by decide +kernel
theorem dX5_areSoBehind_29 : decode cX5_areSoBehind 29 = .ok (.iaload, 1) := by decide +kernel
theorem dX5_areSoBehind_30 : decode cX5_areSoBehind 30 = .ok (.iaload, 1) := by decide +kernel
theorem dX5_areSoBehind_31 : decode cX5_areSoBehind 31 = .ok (.aload_n 0, 1) := by decide +kernel
theorem dX5_areSoBehind_32 : decode cX5_areSoBehind 32 = .ok (.getfield 46, 3) := by decide +kernel
theorem dX5_areSoBehind_35 : decode cX5_areSoBehind 35 = .ok (.iload_n 2, 1) := by decide +kernel
theorem dX5_areSoBehind_36 : decode cX5_areSoBehind 36 = .ok (.iaload, 1) := by decide +kernel
theorem dX5_areSoBehind_37 : decode cX5_areSoBehind 37 = .ok (.if_icmp .eq 5, 3) := by decide +kernel
theorem dX5_areSoBehind_40 : decode cX5_areSoBehind 40 = .ok (.iconst 0, 1) := by decide +kernel
theorem dX5_areSoBehind_41 : decode cX5_areSoBehind 41 = .ok (.ireturn, 1) := by decide +kernel
theorem dX5_areSoBehind_42 : decode cX5_areSoBehind 42 = .ok (.iinc 2 1, 3) := by decide +kernel
theorem dX5_areSoBehind_45 : decode cX5_areSoBehind 45 = .ok (.goto (-43), 3) := by decide +kernel
theorem dX5_areSoBehind_48 : decode cX5_areSoBehind 48 = .ok (.iconst 1, 1) := by decide +kernel
theorem dX5_areSoBehind_49 : decode cX5_areSoBehind 49 = .ok (.ireturn, 1) := by decide +kernel
set_option maxRecDepth 20000 in
theorem S_X5_areSoBehind_0 {g : GG} {d : Nat} {F : Int32 → St → Prop} (a1 : Int32) (σ : St) (h : VM g d M_X5_areSoBehind (qI F) 2 [(0, vR 23), (1, vI a1), (2, vI 0)] [] σ) : VM g d M_X5_areSoBehind (qI F) 0 [(0, vR 23), (1, vI a1)] [] σ := by
  refine VE_iconst 0 dX5_areSoBehind_0 (k := ?_)
  refine VE_istore_n (ls' := [(2, vI 0), (0, vR 23), (1, vI a1)]) dX5_areSoBehind_1 ?_
  exact VE_sub [1, 2, 0] rfl h
set_option maxRecDepth 20000 in
theorem S_X5_areSoBehind_2 {g : GG} {d : Nat} {F : Int32 → St → Prop} (x1 : Int32) (x2 : Int32) (σ : St) (h : (((σ 23 18) ≤ x2 → F 1 σ) ∧ (¬ (σ 23 18) ≤ x2 → (vp_in x2 8 ∧ ((¬ (σ 34 x2.toNatClampNeg) = x1 → VM g d M_X5_areSoBehind (qI F) 2 [(0, vR 23), (1, vI x1), (2, vI (x2 + 1))] [] σ) ∧ ((σ 34 x2.toNatClampNeg) = x1 → (vp_in (σ 35 x2.toNatClampNeg) 5 ∧ (((σ 31 ((σ 35 x2.toNatClampNeg).toNatClampNeg)) = (σ 36 x2.toNatClampNeg) → VM g d M_X5_areSoBehind (qI F) 2 [(0, vR 23), (1, vI x1), (2, vI (x2 + 1))] [] σ) ∧ (¬ (σ 31 ((σ 35 x2.toNatClampNeg).toNatClampNeg)) = (σ 36 x2.toNatClampNeg) → F 0 σ))))))))) : VM g d M_X5_areSoBehind (qI F) 2 [(0, vR 23), (1, vI x1), (2, vI x2)] [] σ := by
  refine VE_iload_n 2 dX5_areSoBehind_2 (k := ?_)
  refine VE_aload_n 0 dX5_areSoBehind_3 (k := ?_)
  refine VE_getI dX5_areSoBehind_4 fl_X5_86 ?_
  refine VE_icmp_ge 48 dX5_areSoBehind_7 (fun c1 => ?_) (fun c1 => ?_)
  · refine VE_iconst 1 dX5_areSoBehind_48 (k := ?_)
    exact VM_zret dX5_areSoBehind_49 (h.1 c1) (by decide)
  · refine VE_aload_n 0 dX5_areSoBehind_10 (k := ?_)
    refine VE_getR 34 dX5_areSoBehind_11 fl_X5_40 ?_
    refine VE_iload_n 2 dX5_areSoBehind_14 (k := ?_)
    refine VE_iald dX5_areSoBehind_15 (h.2 c1).1 ?_
    refine VE_iload_n 1 dX5_areSoBehind_16 (k := ?_)
    refine VE_icmp_ne 42 dX5_areSoBehind_17 (fun c2 => ?_) (fun c2 => ?_)
    · refine VE_iinc 2 (x2 + 1) (ls' := [(2, vI (x2 + 1)), (0, vR 23), (1, vI x1)]) dX5_areSoBehind_42 ?_
      refine VE_goto 2 dX5_areSoBehind_45 ?_
      exact VE_sub [1, 2, 0] rfl ((h.2 c1).2.1 c2)
    · refine VE_aload_n 0 dX5_areSoBehind_20 (k := ?_)
      refine VE_getR 31 dX5_areSoBehind_21 fl_X5_31 ?_
      refine VE_aload_n 0 dX5_areSoBehind_24 (k := ?_)
      refine VE_getR 35 dX5_areSoBehind_25 fl_X5_43 ?_
      refine VE_iload_n 2 dX5_areSoBehind_28 (k := ?_)
      refine VE_iald dX5_areSoBehind_29 (h.2 c1).1 ?_
      refine VE_iald dX5_areSoBehind_30 ((h.2 c1).2.2 c2).1 ?_
      refine VE_aload_n 0 dX5_areSoBehind_31 (k := ?_)
      refine VE_getR 36 dX5_areSoBehind_32 fl_X5_46 ?_
      refine VE_iload_n 2 dX5_areSoBehind_35 (k := ?_)
      refine VE_iald dX5_areSoBehind_36 (h.2 c1).1 ?_
      refine VE_icmp_eq 42 dX5_areSoBehind_37 (fun c3 => ?_) (fun c3 => ?_)
      · refine VE_iinc 2 (x2 + 1) (ls' := [(2, vI (x2 + 1)), (0, vR 23), (1, vI x1)]) dX5_areSoBehind_42 ?_
        refine VE_goto 2 dX5_areSoBehind_45 ?_
        exact VE_sub [1, 2, 0] rfl (((h.2 c1).2.2 c2).2.1 c3)
      · refine VE_iconst 0 dX5_areSoBehind_40 (k := ?_)
        exact VM_zret dX5_areSoBehind_41 (((h.2 c1).2.2 c2).2.2 c3) (by decide)
theorem dX5_areSo_0 : decode cX5_areSo 0 = .ok (.iconst 0, 1) := by decide +kernel
theorem dX5_areSo_1 : decode cX5_areSo 1 = .ok (.istore_n 1, 1) := by decide +kernel
theorem dX5_areSo_2 : decode cX5_areSo 2 = .ok (.iload_n 1, 1) := by decide +kernel
theorem dX5_areSo_3 : decode cX5_areSo 3 = .ok (.aload_n 0, 1) := by decide +kernel
theorem dX5_areSo_4 : decode cX5_areSo 4 = .ok (.getfield 86, 3) := by decide +kernel
theorem dX5_areSo_7 : decode cX5_areSo 7 = .ok (.if_icmp .ge 24, 3) := by decide +kernel
theorem dX5_areSo_10 : decode cX5_areSo 10 = .ok (.aload_n 0, 1) := by decide +kernel
theorem dX5_areSo_11 : decode cX5_areSo 11 = .ok (.getfield 40, 3) := by decide +kernel
theorem dX5_areSo_14 : decode cX5_areSo 14 = .ok (.iload_n 1, 1) := by decide +kernel
theorem dX5_areSo_15 : decode cX5_areSo 15 = .ok (.iaload, 1) := by decide +kernel
theorem dX5_areSo_16 : decode cX5_areSo 16 = .ok (.aload_n 0, 1) := by decide +kernel
theorem dX5_areSo_17 : decode cX5_areSo 17 = .ok (.getfield 113, 3) := by decide +kernel
theorem dX5_areSo_20 : decode cX5_areSo 20 = .ok (.if_icmp .le 5, 3) := by decide +kernel
theorem dX5_areSo_23 : decode cX5_areSo 23 = .ok (.iconst 0, 1) := by decide +kernel
theorem dX5_areSo_24 : decode cX5_areSo 24 = .ok (.ireturn, 1) := by decide +kernel
theorem dX5_areSo_25 : decode cX5_areSo 25 = .ok (.iinc 1 1, 3) := by decide +kernel
theorem dX5_areSo_28 : decode cX5_areSo 28 = .ok (.goto (-26), 3) := by decide +kernel
theorem dX5_areSo_31 : decode cX5_areSo 31 = .ok (.aload_n 0, 1) := by decide +kernel
theorem dX5_areSo_32 : decode cX5_areSo 32 = .ok (.invokevirtual 116, 3) := by decide +kernel
theorem dX5_areSo_35 : decode cX5_areSo 35 = .ok (.aload_n 0, 1) := by decide +kernel
theorem dX5_areSo_36 : decode cX5_areSo 36 = .ok (.iconst 0, 1) := by decide +kernel
theorem dX5_areSo_37 : decode cX5_areSo 37 = .ok (.invokevirtual 163, 3) := by decide +kernel
theorem dX5_areSo_40 : decode cX5_areSo 40 = .ok (.istore_n 1, 1) := by decide +kernel
theorem dX5_areSo_41 : decode cX5_areSo 41 = .ok (.iconst 0, 1) := by decide +kernel
theorem dX5_areSo_42 : decode cX5_areSo 42 = .ok (.istore_n 2, 1) := by decide +kernel
theorem dX5_areSo_43 : decode cX5_areSo 43 = .ok (.iload_n 2, 1) := by decide +kernel
theorem dX5_areSo_44 : decode cX5_areSo 44 = .ok (.aload_n 0, 1) := by decide +kernel
theorem dX5_areSo_45 : decode cX5_areSo 45 = .ok (.getfield 113, 3) := by decide +kernel
theorem dX5_areSo_48 : decode cX5_areSo 48 = .ok (.if_icmp .ge 42, 3) := by decide +kernel
theorem dX5_areSo_51 : decode cX5_areSo 51 = .ok (.iload_n 1, 1) := by decide +kernel
theorem dX5_areSo_52 : decode cX5_areSo 52 = .ok (.ifCond .eq 38, 3) := by decide +kernel
theorem dX5_areSo_55 : decode cX5_areSo 55 = .ok (.aload_n 0, 1) := by decide +kernel
theorem dX5_areSo_56 : decode cX5_areSo 56 = .ok (.aload_n 0, 1) := by decide +kernel
theorem dX5_areSo_57 : decode cX5_areSo 57 = .ok (.getfield 37, 3) := by decide +kernel
theorem dX5_areSo_60 : decode cX5_areSo 60 = .ok (.iload_n 2, 1) := by decide +kernel
theorem dX5_areSo_61 : decode cX5_areSo 61 = .ok (.iaload, 1) := by decide +kernel
theorem dX5_areSo_62 : decode cX5_areSo 62 = .ok (.invokevirtual 119, 3) := by decide +kernel
theorem dX5_areSo_65 : decode cX5_areSo 65 = .ok (.ifCond .eq 17, 3) := by decide +kernel
theorem dX5_areSo_68 : decode cX5_areSo 68 = .ok (.aload_n 0, 1) := by decide +kernel
theorem dX5_areSo_69 : decode cX5_areSo 69 = .ok (.iload_n 2, 1) := by decide +kernel
theorem dX5_areSo_70 : decode cX5_areSo 70 = .ok (.iconst 1, 1) := by decide +kernel
theorem dX5_areSo_71 : decode cX5_areSo 71 = .ok (.iadd, 1) := by decide +kernel
theorem dX5_areSo_72 : decode cX5_areSo 72 = .ok (.invokevirtual 163, 3) := by decide +kernel
theorem dX5_areSo_75 : decode cX5_areSo 75 = .ok (.ifCond .eq 7, 3) := by decide +kernel
theorem dX5_areSo_78 : decode cX5_areSo 78 = .ok (.iconst 1, 1) := by decide +kernel
theorem dX5_areSo_79 : decode cX5_areSo 79 = .ok (.goto 4, 3) := by decide +kernel
theorem dX5_areSo_82 : decode cX5_areSo 82 = .ok (.iconst 0, 1) := by decide +kernel
theorem dX5_areSo_83 : decode cX5_areSo 83 = .ok (.istore_n 1, 1) := by decide +kernel
theorem dX5_areSo_84 : decode cX5_areSo 84 = .ok (.iinc 2 1, 3) := by decide +kernel
theorem dX5_areSo_87 : decode cX5_areSo 87 = .ok (.goto (-44), 3) := by decide +kernel
theorem dX5_areSo_90 : decode cX5_areSo 90 = .ok (.iload_n 1, 1) := by decide +kernel
theorem dX5_areSo_91 : decode cX5_areSo 91 = .ok (.ireturn, 1) := by decide +kernel
set_option maxRecDepth 20000 in
theorem S_X5_areSo_0 {g : GG} {d : Nat} {F : Int32 → St → Prop}  (σ : St) (h : VM g (d + 1) M_X5_areSo (qI F) 2 [(0, vR 23), (1, vI 0)] [] σ) : VM g (d + 1) M_X5_areSo (qI F) 0 [(0, vR 23)] [] σ := by
  refine VE_iconst 0 dX5_areSo_0 (k := ?_)
  refine VE_istore_n (ls' := [(1, vI 0), (0, vR 23)]) dX5_areSo_1 ?_
  exact VE_sub [1, 0] rfl h
set_option maxRecDepth 20000 in
theorem S_X5_areSo_2 {g : GG} {d : Nat} {F : Int32 → St → Prop} (x1 : Int32) (σ : St) (h : (((σ 23 18) ≤ x1 → (ME g d M_X5_begin [vR 23] σ (qV (fun σ3 => (ME g d M_X5_areSoBehind [vR 23, vI 0] σ3 (qI (fun r5 σ6 => VM g (d + 1) M_X5_areSo (qI F) 43 [(0, vR 23), (1, vI r5), (2, vI 0)] [] σ6))))))) ∧ (¬ (σ 23 18) ≤ x1 → (vp_in x1 8 ∧ (((σ 34 x1.toNatClampNeg) ≤ (σ 23 15) → VM g (d + 1) M_X5_areSo (qI F) 2 [(0, vR 23), (1, vI (x1 + 1))] [] σ) ∧ (¬ (σ 34 x1.toNatClampNeg) ≤ (σ 23 15) → F 0 σ)))))) : VM g (d + 1) M_X5_areSo (qI F) 2 [(0, vR 23), (1, vI x1)] [] σ := by
  refine VE_iload_n 1 dX5_areSo_2 (k := ?_)
  refine VE_aload_n 0 dX5_areSo_3 (k := ?_)
  refine VE_getI dX5_areSo_4 fl_X5_86 ?_
  refine VE_icmp_ge 31 dX5_areSo_7 (fun c1 => ?_) (fun c1 => ?_)
  · refine VE_aload_n 0 dX5_areSo_31 (k := ?_)
    refine VE_cVv [] dX5_areSo_32 ml_X5_116 (h.1 c1) (fun σ3 h4 => ?_) (rok_D d)
    refine VE_aload_n 0 dX5_areSo_35 (k := ?_)
    refine VE_iconst 0 dX5_areSo_36 (k := ?_)
    refine VE_cVi [vI 0] dX5_areSo_37 ml_X5_163 h4 (fun r5 σ6 h7 => ?_) (rok_D d)
    refine VE_istore_n (ls' := [(1, vI r5), (0, vR 23)]) dX5_areSo_40 ?_
    refine VE_iconst 0 dX5_areSo_41 (k := ?_)
    refine VE_istore_n (ls' := [(2, vI 0), (1, vI r5), (0, vR 23)]) dX5_areSo_42 ?_
    exact VE_sub [2, 1, 0] rfl h7
  · refine VE_aload_n 0 dX5_areSo_10 (k := ?_)
    refine VE_getR 34 dX5_areSo_11 fl_X5_40 ?_
    refine VE_iload_n 1 dX5_areSo_14 (k := ?_)
    refine VE_iald dX5_areSo_15 (h.2 c1).1 ?_
    refine VE_aload_n 0 dX5_areSo_16 (k := ?_)
    refine VE_getI dX5_areSo_17 fl_X5_113 ?_
    refine VE_icmp_le 25 dX5_areSo_20 (fun c8 => ?_) (fun c8 => ?_)
    · refine VE_iinc 1 (x1 + 1) (ls' := [(1, vI (x1 + 1)), (0, vR 23)]) dX5_areSo_25 ?_
      refine VE_goto 2 dX5_areSo_28 ?_
      exact VE_sub [1, 0] rfl ((h.2 c1).2.1 c8)
    · refine VE_iconst 0 dX5_areSo_23 (k := ?_)
      exact VM_zret dX5_areSo_24 ((h.2 c1).2.2 c8) (by decide)
set_option maxRecDepth 20000 in
theorem S_X5_areSo_43 {g : GG} {d : Nat} {F : Int32 → St → Prop} (x1 : Int32) (x2 : Int32) (σ : St) (h : (((σ 23 15) ≤ x2 → (F x1 σ ∧ (x1 = 0 ∨ x1 = 1))) ∧ (¬ (σ 23 15) ≤ x2 → ((x1 = 0 → (F x1 σ ∧ (x1 = 0 ∨ x1 = 1))) ∧ (¬ x1 = 0 → (vp_in x2 20 ∧ (ME g d M_X5_visit [vR 23, vI (σ 33 x2.toNatClampNeg)] σ (qI (fun r3 σ4 => ((r3 = 0 → VM g (d + 1) M_X5_areSo (qI F) 43 [(0, vR 23), (1, vI 0), (2, vI (x2 + 1))] [] σ4) ∧ (¬ r3 = 0 → (ME g d M_X5_areSoBehind [vR 23, vI (x2 + 1)] σ4 (qI (fun r7 σ8 => ((r7 = 0 → VM g (d + 1) M_X5_areSo (qI F) 43 [(0, vR 23), (1, vI 0), (2, vI (x2 + 1))] [] σ8) ∧ (¬ r7 = 0 → VM g (d + 1) M_X5_areSo (qI F) 43 [(0, vR 23), (1, vI 1), (2, vI (x2 + 1))] [] σ8)))))))))))))))) : VM g (d + 1) M_X5_areSo (qI F) 43 [(0, vR 23), (1, vI x1), (2, vI x2)] [] σ := by
  refine VE_iload_n 2 dX5_areSo_43 (k := ?_)
  refine VE_aload_n 0 dX5_areSo_44 (k := ?_)
  refine VE_getI dX5_areSo_45 fl_X5_113 ?_
  refine VE_icmp_ge 90 dX5_areSo_48 (fun c1 => ?_) (fun c1 => ?_)
  · refine VE_iload_n 1 dX5_areSo_90 (k := ?_)
    exact VM_zret dX5_areSo_91 (h.1 c1).1 (h.1 c1).2
  · refine VE_iload_n 1 dX5_areSo_51 (k := ?_)
    refine VE_if_eq 90 dX5_areSo_52 (fun c2 => ?_) (fun c2 => ?_)
    · refine VE_iload_n 1 dX5_areSo_90 (k := ?_)
      exact VM_zret dX5_areSo_91 ((h.2 c1).1 c2).1 ((h.2 c1).1 c2).2
    · refine VE_aload_n 0 dX5_areSo_55 (k := ?_)
      refine VE_aload_n 0 dX5_areSo_56 (k := ?_)
      refine VE_getR 33 dX5_areSo_57 fl_X5_37 ?_
      refine VE_iload_n 2 dX5_areSo_60 (k := ?_)
      refine VE_iald dX5_areSo_61 ((h.2 c1).2 c2).1 ?_
      refine VE_cVi [vI (σ 33 x2.toNatClampNeg)] dX5_areSo_62 ml_X5_119 ((h.2 c1).2 c2).2 (fun r3 σ4 h5 => ?_) (rok_D d)
      refine VE_if_eq 82 dX5_areSo_65 (fun c6 => ?_) (fun c6 => ?_)
      · refine VE_iconst 0 dX5_areSo_82 (k := ?_)
        refine VE_istore_n (ls' := [(1, vI 0), (0, vR 23), (2, vI x2)]) dX5_areSo_83 ?_
        refine VE_iinc 2 (x2 + 1) (ls' := [(2, vI (x2 + 1)), (1, vI 0), (0, vR 23)]) dX5_areSo_84 ?_
        refine VE_goto 43 dX5_areSo_87 ?_
        exact VE_sub [2, 1, 0] rfl (h5.1 c6)
      · refine VE_aload_n 0 dX5_areSo_68 (k := ?_)
        refine VE_iload_n 2 dX5_areSo_69 (k := ?_)
        refine VE_iconst 1 dX5_areSo_70 (k := ?_)
        refine VE_iadd dX5_areSo_71 ?_
        refine VE_cVi [vI (x2 + 1)] dX5_areSo_72 ml_X5_163 (h5.2 c6) (fun r7 σ8 h9 => ?_) (rok_D d)
        refine VE_if_eq 82 dX5_areSo_75 (fun c10 => ?_) (fun c10 => ?_)
        · refine VE_iconst 0 dX5_areSo_82 (k := ?_)
          refine VE_istore_n (ls' := [(1, vI 0), (0, vR 23), (2, vI x2)]) dX5_areSo_83 ?_
          refine VE_iinc 2 (x2 + 1) (ls' := [(2, vI (x2 + 1)), (1, vI 0), (0, vR 23)]) dX5_areSo_84 ?_
          refine VE_goto 43 dX5_areSo_87 ?_
          exact VE_sub [2, 1, 0] rfl (h9.1 c10)
        · refine VE_iconst 1 dX5_areSo_78 (k := ?_)
          refine VE_goto 83 dX5_areSo_79 ?_
          refine VE_istore_n (ls' := [(1, vI 1), (0, vR 23), (2, vI x2)]) dX5_areSo_83 ?_
          refine VE_iinc 2 (x2 + 1) (ls' := [(2, vI (x2 + 1)), (1, vI 1), (0, vR 23)]) dX5_areSo_84 ?_
          refine VE_goto 43 dX5_areSo_87 ?_
          exact VE_sub [2, 1, 0] rfl (h9.2 c10)
theorem dX5_who_0 : decode cX5_who 0 = .ok (.aload_n 0, 1) := by decide +kernel
theorem dX5_who_1 : decode cX5_who 1 = .ok (.iconst 0, 1) := by decide +kernel
theorem dX5_who_2 : decode cX5_who 2 = .ok (.putfield 49, 3) := by decide +kernel
theorem dX5_who_5 : decode cX5_who 5 = .ok (.iload_n 2, 1) := by decide +kernel
theorem dX5_who_6 : decode cX5_who 6 = .ok (.invokestatic 65, 3) := by decide +kernel
theorem dX5_who_9 : decode cX5_who 9 = .ok (.ifCond .ne 5, 3) := by decide +kernel
theorem dX5_who_12 : decode cX5_who 12 = .ok (.iconst (-1), 1) := by decide +kernel
theorem dX5_who_13 : decode cX5_who 13 = .ok (.ireturn, 1) := by decide +kernel
theorem dX5_who_14 : decode cX5_who 14 = .ok (.iload_n 3, 1) := by decide +kernel
theorem dX5_who_15 : decode cX5_who 15 = .ok (.iload 5, 2) := by decide +kernel
theorem dX5_who_17 : decode cX5_who 17 = .ok (.invokestatic 122, 3) := by decide +kernel
theorem dX5_who_20 : decode cX5_who 20 = .ok (.ifCond .eq 15, 3) := by decide +kernel
theorem dX5_who_23 : decode cX5_who 23 = .ok (.iload_n 1, 1) := by decide +kernel
theorem dX5_who_24 : decode cX5_who 24 = .ok (.iconst 0, 1) := by decide +kernel
theorem dX5_who_25 : decode cX5_who 25 = .ok (.iload 5, 2) := by decide +kernel
theorem dX5_who_27 : decode cX5_who 27 = .ok (.iconst 1, 1) := by decide +kernel
theorem dX5_who_28 : decode cX5_who 28 = .ok (.isub, 1) := by decide +kernel
theorem dX5_who_29 : decode cX5_who 29 = .ok (.invokestatic 55, 3) := by decide +kernel
theorem dX5_who_32 : decode cX5_who 32 = .ok (.ifCond .ne 6, 3) := by decide +kernel
theorem dX5_who_35 : decode cX5_who 35 = .ok (.bipush (-2), 2) := by decide +kernel
theorem dX5_who_37 : decode cX5_who 37 = .ok (.ireturn, 1) := by decide +kernel
theorem dX5_who_38 : decode cX5_who 38 = .ok (.aload_n 0, 1) := by decide +kernel
theorem dX5_who_39 : decode cX5_who 39 = .ok (.iload_n 2, 1) := by decide +kernel
theorem dX5_who_40 : decode cX5_who 40 = .ok (.iload_n 3, 1) := by decide +kernel
theorem dX5_who_41 : decode cX5_who 41 = .ok (.iload 4, 2) := by decide +kernel
theorem dX5_who_43 : decode cX5_who 43 = .ok (.iload 5, 2) := by decide +kernel
theorem dX5_who_45 : decode cX5_who 45 = .ok (.invokevirtual 128, 3) := by decide +kernel
theorem dX5_who_48 : decode cX5_who 48 = .ok (.istore 6, 2) := by decide +kernel
theorem dX5_who_50 : decode cX5_who 50 = .ok (.iload 6, 2) := by decide +kernel
theorem dX5_who_52 : decode cX5_who 52 = .ok (.ifCond .eq 6, 3) := by decide +kernel
theorem dX5_who_55 : decode cX5_who 55 = .ok (.iload 6, 2) := by decide +kernel
theorem dX5_who_57 : decode cX5_who 57 = .ok (.ireturn, 1) := by decide +kernel
theorem dX5_who_58 : decode cX5_who 58 = .ok (.iconst 0, 1) := by decide +kernel
theorem dX5_who_59 : decode cX5_who 59 = .ok (.istore 7, 2) := by decide +kernel
theorem dX5_who_61 : decode cX5_who 61 = .ok (.iconst 0, 1) := by decide +kernel
theorem dX5_who_62 : decode cX5_who 62 = .ok (.istore 8, 2) := by decide +kernel
theorem dX5_who_64 : decode cX5_who 64 = .ok (.iload 8, 2) := by decide +kernel
theorem dX5_who_66 : decode cX5_who 66 = .ok (.aload_n 0, 1) := by decide +kernel
theorem dX5_who_67 : decode cX5_who 67 = .ok (.getfield 59, 3) := by decide +kernel
theorem dX5_who_70 : decode cX5_who 70 = .ok (.if_icmp .ge 37, 3) := by decide +kernel
theorem dX5_who_73 : decode cX5_who 73 = .ok (.aload_n 0, 1) := by decide +kernel
theorem dX5_who_74 : decode cX5_who 74 = .ok (.getfield 37, 3) := by decide +kernel
theorem dX5_who_77 : decode cX5_who 77 = .ok (.iload_n 1, 1) := by decide +kernel
theorem dX5_who_78 : decode cX5_who 78 = .ok (.iload 8, 2) := by decide +kernel
theorem dX5_who_80 : decode cX5_who 80 = .ok (.iastore, 1) := by decide +kernel
theorem dX5_who_81 : decode cX5_who 81 = .ok (.iload 7, 2) := by decide +kernel
theorem dX5_who_83 : decode cX5_who 83 = .ok (.aload_n 0, 1) := by decide +kernel
theorem dX5_who_84 : decode cX5_who 84 = .ok (.invokevirtual 166, 3) := by decide +kernel
theorem dX5_who_87 : decode cX5_who 87 = .ok (.ifCond .eq 10, 3) := by decide +kernel
theorem dX5_who_90 : decode cX5_who 90 = .ok (.iconst 1, 1) := by decide +kernel
theorem dX5_who_91 : decode cX5_who 91 = .ok (.iload 8, 2) := by decide +kernel
theorem dX5_who_93 : decode cX5_who 93 = .ok (.ishl, 1) := by decide +kernel
theorem dX5_who_94 : decode cX5_who 94 = .ok (.goto 4, 3) := by decide +kernel
theorem dX5_who_97 : decode cX5_who 97 = .ok (.iconst 0, 1) := by decide +kernel
theorem dX5_who_98 : decode cX5_who 98 = .ok (.ior, 1) := by decide +kernel
theorem dX5_who_99 : decode cX5_who 99 = .ok (.istore 7, 2) := by decide +kernel
theorem dX5_who_101 : decode cX5_who 101 = .ok (.iinc 8 1, 3) := by decide +kernel
theorem dX5_who_104 : decode cX5_who 104 = .ok (.goto (-40), 3) := by decide +kernel
theorem dX5_who_107 : decode cX5_who 107 = .ok (.iload 7, 2) := by decide +kernel
theorem dX5_who_109 : decode cX5_who 109 = .ok (.ireturn, 1) := by decide +kernel
set_option maxRecDepth 20000 in
theorem S_X5_who_0 {g : GG} {d : Nat} {F : Int32 → St → Prop} (a1 : Int32) (a2 : Int32) (a3 : Int32) (a4 : Int32) (a5 : Int32) (σ : St) (h : (ME g d M_X5_isSheet [vI a2] (sU σ 23 0 0) (qI (fun r1 σ2 => ((¬ r1 = 0 → (ME g d M_X5_isRow [vI a3, vI a5] σ2 (qI (fun r5 σ6 => ((r5 = 0 → F (-2) σ6) ∧ (¬ r5 = 0 → (ME g d M_X5_within [vI a1, vI 0, vI (a5 - 1)] σ6 (qI (fun r9 σ10 => ((¬ r9 = 0 → (ME g d M_X5_layVisits [vR 23, vI a2, vI a3, vI a4, vI a5] σ10 (qI (fun r13 σ14 => ((r13 = 0 → VM g (d + 1) M_X5_who (qI F) 64 [(0, vR 23), (1, vI a1), (2, vI a2), (3, vI a3), (4, vI a4), (5, vI a5), (6, vI r13), (7, vI 0), (8, vI 0)] [] σ14) ∧ (¬ r13 = 0 → F r13 σ14)))))) ∧ (r9 = 0 → F (-2) σ10))))))))))) ∧ (r1 = 0 → F (-1) σ2)))))) : VM g (d + 1) M_X5_who (qI F) 0 [(0, vR 23), (1, vI a1), (2, vI a2), (3, vI a3), (4, vI a4), (5, vI a5)] [] σ := by
  refine VE_aload_n 0 dX5_who_0 (k := ?_)
  refine VE_iconst 0 dX5_who_1 (k := ?_)
  refine VE_put dX5_who_2 fl_X5_49 ?_
  refine VE_iload_n 2 dX5_who_5 (k := ?_)
  refine VE_cSi [vI a2] dX5_who_6 ml_X5_65 h (fun r1 σ2 h3 => ?_) (rok_D d)
  refine VE_if_ne 14 dX5_who_9 (fun c4 => ?_) (fun c4 => ?_)
  · refine VE_iload_n 3 dX5_who_14 (k := ?_)
    refine VE_iload 5 dX5_who_15 (k := ?_)
    refine VE_cSi [vI a3, vI a5] dX5_who_17 ml_X5_122 (h3.1 c4) (fun r5 σ6 h7 => ?_) (rok_D d)
    refine VE_if_eq 35 dX5_who_20 (fun c8 => ?_) (fun c8 => ?_)
    · refine VE_bipush (-2) dX5_who_35 (k := ?_)
      exact VM_iret dX5_who_37 (h7.1 c8)
    · refine VE_iload_n 1 dX5_who_23 (k := ?_)
      refine VE_iconst 0 dX5_who_24 (k := ?_)
      refine VE_iload 5 dX5_who_25 (k := ?_)
      refine VE_iconst 1 dX5_who_27 (k := ?_)
      refine VE_isub dX5_who_28 ?_
      refine VE_cSi [vI a1, vI 0, vI (a5 - 1)] dX5_who_29 ml_X5_55 (h7.2 c8) (fun r9 σ10 h11 => ?_) (rok_D d)
      refine VE_if_ne 38 dX5_who_32 (fun c12 => ?_) (fun c12 => ?_)
      · refine VE_aload_n 0 dX5_who_38 (k := ?_)
        refine VE_iload_n 2 dX5_who_39 (k := ?_)
        refine VE_iload_n 3 dX5_who_40 (k := ?_)
        refine VE_iload 4 dX5_who_41 (k := ?_)
        refine VE_iload 5 dX5_who_43 (k := ?_)
        refine VE_cVi [vI a2, vI a3, vI a4, vI a5] dX5_who_45 ml_X5_128 (h11.1 c12) (fun r13 σ14 h15 => ?_) (rok_D d)
        refine VE_istore (ls' := [(6, vI r13), (0, vR 23), (1, vI a1), (2, vI a2), (3, vI a3), (4, vI a4), (5, vI a5)]) dX5_who_48 ?_
        refine VE_iload 0 dX5_who_50 (k := ?_)
        refine VE_if_eq 58 dX5_who_52 (fun c16 => ?_) (fun c16 => ?_)
        · refine VE_iconst 0 dX5_who_58 (k := ?_)
          refine VE_istore (ls' := [(7, vI 0), (6, vI r13), (0, vR 23), (1, vI a1), (2, vI a2), (3, vI a3), (4, vI a4), (5, vI a5)]) dX5_who_59 ?_
          refine VE_iconst 0 dX5_who_61 (k := ?_)
          refine VE_istore (ls' := [(8, vI 0), (7, vI 0), (6, vI r13), (0, vR 23), (1, vI a1), (2, vI a2), (3, vI a3), (4, vI a4), (5, vI a5)]) dX5_who_62 ?_
          exact VE_sub [3, 4, 5, 6, 7, 8, 2, 1, 0] rfl (h15.1 c16)
        · refine VE_iload 0 dX5_who_55 (k := ?_)
          exact VM_iret dX5_who_57 (h15.2 c16)
      · refine VE_bipush (-2) dX5_who_35 (k := ?_)
        exact VM_iret dX5_who_37 (h11.2 c12)
  · refine VE_iconst (-1) dX5_who_12 (k := ?_)
    exact VM_iret dX5_who_13 (h3.2 c4)
set_option maxRecDepth 20000 in
theorem S_X5_who_64 {g : GG} {d : Nat} {F : Int32 → St → Prop} (x1 : Int32) (x2 : Int32) (x3 : Int32) (x4 : Int32) (x5 : Int32) (x6 : Int32) (x7 : Int32) (x8 : Int32) (σ : St) (h : (((σ 23 5) ≤ x8 → F x7 σ) ∧ (¬ (σ 23 5) ≤ x8 → (vp_in x1 20 ∧ (ME g d M_X5_areSo [vR 23] (sU σ 33 x1.toNatClampNeg x8) (qI (fun r2 σ3 => ((r2 = 0 → VM g (d + 1) M_X5_who (qI F) 64 [(0, vR 23), (1, vI x1), (2, vI x2), (3, vI x3), (4, vI x4), (5, vI x5), (6, vI x6), (7, vI (x7 ||| 0)), (8, vI (x8 + 1))] [] σ3) ∧ (¬ r2 = 0 → VM g (d + 1) M_X5_who (qI F) 64 [(0, vR 23), (1, vI x1), (2, vI x2), (3, vI x3), (4, vI x4), (5, vI x5), (6, vI x6), (7, vI (x7 ||| (1 <<< (x8 &&& 31)))), (8, vI (x8 + 1))] [] σ3))))))))) : VM g (d + 1) M_X5_who (qI F) 64 [(0, vR 23), (1, vI x1), (2, vI x2), (3, vI x3), (4, vI x4), (5, vI x5), (6, vI x6), (7, vI x7), (8, vI x8)] [] σ := by
  refine VE_iload 8 dX5_who_64 (k := ?_)
  refine VE_aload_n 0 dX5_who_66 (k := ?_)
  refine VE_getI dX5_who_67 fl_X5_59 ?_
  refine VE_icmp_ge 107 dX5_who_70 (fun c1 => ?_) (fun c1 => ?_)
  · refine VE_iload 7 dX5_who_107 (k := ?_)
    exact VM_iret dX5_who_109 (h.1 c1)
  · refine VE_aload_n 0 dX5_who_73 (k := ?_)
    refine VE_getR 33 dX5_who_74 fl_X5_37 ?_
    refine VE_iload_n 1 dX5_who_77 (k := ?_)
    refine VE_iload 8 dX5_who_78 (k := ?_)
    refine VE_iast dX5_who_80 (h.2 c1).1 ?_
    refine VE_iload 7 dX5_who_81 (k := ?_)
    refine VE_aload_n 0 dX5_who_83 (k := ?_)
    refine VE_cVi [] dX5_who_84 ml_X5_166 (h.2 c1).2 (fun r2 σ3 h4 => ?_) (rok_D d)
    refine VE_if_eq 97 dX5_who_87 (fun c5 => ?_) (fun c5 => ?_)
    · refine VE_iconst 0 dX5_who_97 (k := ?_)
      refine VE_ior dX5_who_98 ?_
      refine VE_istore (ls' := [(7, vI (x7 ||| 0)), (0, vR 23), (1, vI x1), (2, vI x2), (3, vI x3), (4, vI x4), (5, vI x5), (6, vI x6), (8, vI x8)]) dX5_who_99 ?_
      refine VE_iinc 8 (x8 + 1) (ls' := [(8, vI (x8 + 1)), (7, vI (x7 ||| 0)), (0, vR 23), (1, vI x1), (2, vI x2), (3, vI x3), (4, vI x4), (5, vI x5), (6, vI x6)]) dX5_who_101 ?_
      refine VE_goto 64 dX5_who_104 ?_
      exact VE_sub [2, 3, 4, 5, 6, 7, 8, 1, 0] rfl (h4.1 c5)
    · refine VE_iconst 1 dX5_who_90 (k := ?_)
      refine VE_iload 8 dX5_who_91 (k := ?_)
      refine VE_ishl dX5_who_93 ?_
      refine VE_goto 98 dX5_who_94 ?_
      refine VE_ior dX5_who_98 ?_
      refine VE_istore (ls' := [(7, vI (x7 ||| (1 <<< (x8 &&& 31)))), (0, vR 23), (1, vI x1), (2, vI x2), (3, vI x3), (4, vI x4), (5, vI x5), (6, vI x6), (8, vI x8)]) dX5_who_99 ?_
      refine VE_iinc 8 (x8 + 1) (ls' := [(8, vI (x8 + 1)), (7, vI (x7 ||| (1 <<< (x8 &&& 31)))), (0, vR 23), (1, vI x1), (2, vI x2), (3, vI x3), (4, vI x4), (5, vI x5), (6, vI x6)]) dX5_who_101 ?_
      refine VE_goto 64 dX5_who_104 ?_
      exact VE_sub [2, 3, 4, 5, 6, 7, 8, 1, 0] rfl (h4.2 c5)
theorem dX5_lay_0 : decode cX5_lay 0 = .ok (.aload_n 0, 1) := by decide +kernel
theorem dX5_lay_1 : decode cX5_lay 1 = .ok (.iconst 0, 1) := by decide +kernel
theorem dX5_lay_2 : decode cX5_lay 2 = .ok (.putfield 49, 3) := by decide +kernel
theorem dX5_lay_5 : decode cX5_lay 5 = .ok (.aload_n 0, 1) := by decide +kernel
theorem dX5_lay_6 : decode cX5_lay 6 = .ok (.iload_n 1, 1) := by decide +kernel
theorem dX5_lay_7 : decode cX5_lay 7 = .ok (.invokevirtual 100, 3) := by decide +kernel
theorem dX5_lay_10 : decode cX5_lay 10 = .ok (.ifCond .eq 10, 3) := by decide +kernel
theorem dX5_lay_13 : decode cX5_lay 13 = .ok (.iload_n 2, 1) := by decide +kernel
theorem dX5_lay_14 : decode cX5_lay 14 = .ok (.invokestatic 65, 3) := by decide +kernel
theorem dX5_lay_17 : decode cX5_lay 17 = .ok (.ifCond .ne 5, 3) := by decide +kernel
theorem dX5_lay_20 : decode cX5_lay 20 = .ok (.iconst (-1), 1) := by decide +kernel
theorem dX5_lay_21 : decode cX5_lay 21 = .ok (.ireturn, 1) := by decide +kernel
theorem dX5_lay_22 : decode cX5_lay 22 = .ok (.iload_n 3, 1) := by decide +kernel
theorem dX5_lay_23 : decode cX5_lay 23 = .ok (.iload 5, 2) := by decide +kernel
theorem dX5_lay_25 : decode cX5_lay 25 = .ok (.invokestatic 122, 3) := by decide +kernel
theorem dX5_lay_28 : decode cX5_lay 28 = .ok (.ifCond .eq 16, 3) := by decide +kernel
theorem dX5_lay_31 : decode cX5_lay 31 = .ok (.aload_n 0, 1) := by decide +kernel
theorem dX5_lay_32 : decode cX5_lay 32 = .ok (.iload_n 2, 1) := by decide +kernel
theorem dX5_lay_33 : decode cX5_lay 33 = .ok (.iload_n 3, 1) := by decide +kernel
theorem dX5_lay_34 : decode cX5_lay 34 = .ok (.iload 4, 2) := by decide +kernel
theorem dX5_lay_36 : decode cX5_lay 36 = .ok (.iload 5, 2) := by decide +kernel
theorem dX5_lay_38 : decode cX5_lay 38 = .ok (.invokevirtual 128, 3) := by decide +kernel
theorem dX5_lay_41 : decode cX5_lay 41 = .ok (.goto 5, 3) := by decide +kernel
theorem dX5_lay_44 : decode cX5_lay 44 = .ok (.bipush (-2), 2) := by decide +kernel
theorem dX5_lay_46 : decode cX5_lay 46 = .ok (.ireturn, 1) := by decide +kernel
set_option maxRecDepth 20000 in
theorem S_X5_lay_0 {g : GG} {d : Nat} {F : Int32 → St → Prop} (a1 : Int32) (a2 : Int32) (a3 : Int32) (a4 : Int32) (a5 : Int32) (σ : St) (h : (ME g d M_X5_isHead [vR 23, vI a1] (sU σ 23 0 0) (qI (fun r1 σ2 => ((r1 = 0 → F (-1) σ2) ∧ (¬ r1 = 0 → (ME g d M_X5_isSheet [vI a2] σ2 (qI (fun r5 σ6 => ((¬ r5 = 0 → (ME g d M_X5_isRow [vI a3, vI a5] σ6 (qI (fun r9 σ10 => ((r9 = 0 → F (-2) σ10) ∧ (¬ r9 = 0 → (ME g d M_X5_layVisits [vR 23, vI a2, vI a3, vI a4, vI a5] σ10 (qI (fun r13 σ14 => F r13 σ14))))))))) ∧ (r5 = 0 → F (-1) σ6))))))))))) : VM g (d + 1) M_X5_lay (qI F) 0 [(0, vR 23), (1, vI a1), (2, vI a2), (3, vI a3), (4, vI a4), (5, vI a5)] [] σ := by
  refine VE_aload_n 0 dX5_lay_0 (k := ?_)
  refine VE_iconst 0 dX5_lay_1 (k := ?_)
  refine VE_put dX5_lay_2 fl_X5_49 ?_
  refine VE_aload_n 0 dX5_lay_5 (k := ?_)
  refine VE_iload_n 1 dX5_lay_6 (k := ?_)
  refine VE_cVi [vI a1] dX5_lay_7 ml_X5_100 h (fun r1 σ2 h3 => ?_) (rok_D d)
  refine VE_if_eq 20 dX5_lay_10 (fun c4 => ?_) (fun c4 => ?_)
  · refine VE_iconst (-1) dX5_lay_20 (k := ?_)
    exact VM_iret dX5_lay_21 (h3.1 c4)
  · refine VE_iload_n 2 dX5_lay_13 (k := ?_)
    refine VE_cSi [vI a2] dX5_lay_14 ml_X5_65 (h3.2 c4) (fun r5 σ6 h7 => ?_) (rok_D d)
    refine VE_if_ne 22 dX5_lay_17 (fun c8 => ?_) (fun c8 => ?_)
    · refine VE_iload_n 3 dX5_lay_22 (k := ?_)
      refine VE_iload 5 dX5_lay_23 (k := ?_)
      refine VE_cSi [vI a3, vI a5] dX5_lay_25 ml_X5_122 (h7.1 c8) (fun r9 σ10 h11 => ?_) (rok_D d)
      refine VE_if_eq 44 dX5_lay_28 (fun c12 => ?_) (fun c12 => ?_)
      · refine VE_bipush (-2) dX5_lay_44 (k := ?_)
        exact VM_iret dX5_lay_46 (h11.1 c12)
      · refine VE_aload_n 0 dX5_lay_31 (k := ?_)
        refine VE_iload_n 2 dX5_lay_32 (k := ?_)
        refine VE_iload_n 3 dX5_lay_33 (k := ?_)
        refine VE_iload 4 dX5_lay_34 (k := ?_)
        refine VE_iload 5 dX5_lay_36 (k := ?_)
        refine VE_cVi [vI a2, vI a3, vI a4, vI a5] dX5_lay_38 ml_X5_128 (h11.2 c12) (fun r13 σ14 h15 => ?_) (rok_D d)
        refine VE_goto 46 dX5_lay_41 ?_
        exact VM_iret dX5_lay_46 h15
    · refine VE_iconst (-1) dX5_lay_20 (k := ?_)
      exact VM_iret dX5_lay_21 (h7.2 c8)
theorem dX5_kinds_0 : decode cX5_kinds 0 = .ok (.aload_n 0, 1) := by decide +kernel
theorem dX5_kinds_1 : decode cX5_kinds 1 = .ok (.iload_n 1, 1) := by decide +kernel
theorem dX5_kinds_2 : decode cX5_kinds 2 = .ok (.iload_n 2, 1) := by decide +kernel
theorem dX5_kinds_3 : decode cX5_kinds 3 = .ok (.iload_n 3, 1) := by decide +kernel
theorem dX5_kinds_4 : decode cX5_kinds 4 = .ok (.iload 4, 2) := by decide +kernel
theorem dX5_kinds_6 : decode cX5_kinds 6 = .ok (.iload 5, 2) := by decide +kernel
theorem dX5_kinds_8 : decode cX5_kinds 8 = .ok (.invokevirtual 170, 3) := by decide +kernel
theorem dX5_kinds_11 : decode cX5_kinds 11 = .ok (.istore 6, 2) := by decide +kernel
theorem dX5_kinds_13 : decode cX5_kinds 13 = .ok (.iload 6, 2) := by decide +kernel
theorem dX5_kinds_15 : decode cX5_kinds 15 = .ok (.ifCond .eq 6, 3) := by decide +kernel
theorem dX5_kinds_18 : decode cX5_kinds 18 = .ok (.iload 6, 2) := by decide +kernel
theorem dX5_kinds_20 : decode cX5_kinds 20 = .ok (.ireturn, 1) := by decide +kernel
theorem dX5_kinds_21 : decode cX5_kinds 21 = .ok (.aload_n 0, 1) := by decide +kernel
theorem dX5_kinds_22 : decode cX5_kinds 22 = .ok (.getfield 19, 3) := by decide +kernel
theorem dX5_kinds_25 : decode cX5_kinds 25 = .ok (.iload_n 1, 1) := by decide +kernel
theorem dX5_kinds_26 : decode cX5_kinds 26 = .ok (.iaload, 1) := by decide +kernel
theorem dX5_kinds_27 : decode cX5_kinds 27 = .ok (.istore 7, 2) := by decide +kernel
theorem dX5_kinds_29 : decode cX5_kinds 29 = .ok (.iconst 0, 1) := by decide +kernel
theorem dX5_kinds_30 : decode cX5_kinds 30 = .ok (.istore 8, 2) := by decide +kernel
theorem dX5_kinds_32 : decode cX5_kinds 32 = .ok (.iconst 0, 1) := by decide +kernel
theorem dX5_kinds_33 : decode cX5_kinds 33 = .ok (.istore 9, 2) := by decide +kernel
theorem dX5_kinds_35 : decode cX5_kinds 35 = .ok (.iload 9, 2) := by decide +kernel
theorem dX5_kinds_37 : decode cX5_kinds 37 = .ok (.iconst 3, 1) := by decide +kernel
theorem dX5_kinds_38 : decode cX5_kinds 38 = .ok (.if_icmp .ge 37, 3) := by decide +kernel
theorem dX5_kinds_41 : decode cX5_kinds 41 = .ok (.aload_n 0, 1) := by decide +kernel
theorem dX5_kinds_42 : decode cX5_kinds 42 = .ok (.getfield 19, 3) := by decide +kernel
theorem dX5_kinds_45 : decode cX5_kinds 45 = .ok (.iload_n 1, 1) := by decide +kernel
theorem dX5_kinds_46 : decode cX5_kinds 46 = .ok (.iload 9, 2) := by decide +kernel
theorem dX5_kinds_48 : decode cX5_kinds 48 = .ok (.iastore, 1) := by decide +kernel
theorem dX5_kinds_49 : decode cX5_kinds 49 = .ok (.iload 8, 2) := by decide +kernel
theorem dX5_kinds_51 : decode cX5_kinds 51 = .ok (.aload_n 0, 1) := by decide +kernel
theorem dX5_kinds_52 : decode cX5_kinds 52 = .ok (.invokevirtual 166, 3) := by decide +kernel
theorem dX5_kinds_55 : decode cX5_kinds 55 = .ok (.ifCond .eq 10, 3) := by decide +kernel
theorem dX5_kinds_58 : decode cX5_kinds 58 = .ok (.iconst 1, 1) := by decide +kernel
theorem dX5_kinds_59 : decode cX5_kinds 59 = .ok (.iload 9, 2) := by decide +kernel
theorem dX5_kinds_61 : decode cX5_kinds 61 = .ok (.ishl, 1) := by decide +kernel
theorem dX5_kinds_62 : decode cX5_kinds 62 = .ok (.goto 4, 3) := by decide +kernel
theorem dX5_kinds_65 : decode cX5_kinds 65 = .ok (.iconst 0, 1) := by decide +kernel
theorem dX5_kinds_66 : decode cX5_kinds 66 = .ok (.ior, 1) := by decide +kernel
theorem dX5_kinds_67 : decode cX5_kinds 67 = .ok (.istore 8, 2) := by decide +kernel
theorem dX5_kinds_69 : decode cX5_kinds 69 = .ok (.iinc 9 1, 3) := by decide +kernel
theorem dX5_kinds_72 : decode cX5_kinds 72 = .ok (.goto (-37), 3) := by decide +kernel
theorem dX5_kinds_75 : decode cX5_kinds 75 = .ok (.aload_n 0, 1) := by decide +kernel
theorem dX5_kinds_76 : decode cX5_kinds 76 = .ok (.getfield 19, 3) := by decide +kernel
theorem dX5_kinds_79 : decode cX5_kinds 79 = .ok (.iload_n 1, 1) := by decide +kernel
theorem dX5_kinds_80 : decode cX5_kinds 80 = .ok (.iload 7, 2) := by decide +kernel
theorem dX5_kinds_82 : decode cX5_kinds 82 = .ok (.iastore, 1) := by decide +kernel
theorem dX5_kinds_83 : decode cX5_kinds 83 = .ok (.iload 8, 2) := by decide +kernel
theorem dX5_kinds_85 : decode cX5_kinds 85 = .ok (.ireturn, 1) := by decide +kernel
set_option maxRecDepth 20000 in
theorem S_X5_kinds_0 {g : GG} {d : Nat} {F : Int32 → St → Prop} (a1 : Int32) (a2 : Int32) (a3 : Int32) (a4 : Int32) (a5 : Int32) (σ : St) (h : (ME g d M_X5_lay [vR 23, vI a1, vI a2, vI a3, vI a4, vI a5] σ (qI (fun r1 σ2 => ((r1 = 0 → (vp_in a1 5 ∧ VM g (d + 1) M_X5_kinds (qI F) 35 [(0, vR 23), (1, vI a1), (2, vI a2), (3, vI a3), (4, vI a4), (5, vI a5), (6, vI r1), (7, vI (σ2 27 a1.toNatClampNeg)), (8, vI 0), (9, vI 0)] [] σ2)) ∧ (¬ r1 = 0 → F r1 σ2)))))) : VM g (d + 1) M_X5_kinds (qI F) 0 [(0, vR 23), (1, vI a1), (2, vI a2), (3, vI a3), (4, vI a4), (5, vI a5)] [] σ := by
  refine VE_aload_n 0 dX5_kinds_0 (k := ?_)
  refine VE_iload_n 1 dX5_kinds_1 (k := ?_)
  refine VE_iload_n 2 dX5_kinds_2 (k := ?_)
  refine VE_iload_n 3 dX5_kinds_3 (k := ?_)
  refine VE_iload 4 dX5_kinds_4 (k := ?_)
  refine VE_iload 5 dX5_kinds_6 (k := ?_)
  refine VE_cVi [vI a1, vI a2, vI a3, vI a4, vI a5] dX5_kinds_8 ml_X5_170 h (fun r1 σ2 h3 => ?_) (rok_D d)
  refine VE_istore (ls' := [(6, vI r1), (0, vR 23), (1, vI a1), (2, vI a2), (3, vI a3), (4, vI a4), (5, vI a5)]) dX5_kinds_11 ?_
  refine VE_iload 0 dX5_kinds_13 (k := ?_)
  refine VE_if_eq 21 dX5_kinds_15 (fun c4 => ?_) (fun c4 => ?_)
  · refine VE_aload_n 1 dX5_kinds_21 (k := ?_)
    refine VE_getR 27 dX5_kinds_22 fl_X5_19 ?_
    refine VE_iload_n 2 dX5_kinds_25 (k := ?_)
    refine VE_iald dX5_kinds_26 (h3.1 c4).1 ?_
    refine VE_istore (ls' := [(7, vI (σ2 27 a1.toNatClampNeg)), (6, vI r1), (0, vR 23), (1, vI a1), (2, vI a2), (3, vI a3), (4, vI a4), (5, vI a5)]) dX5_kinds_27 ?_
    refine VE_iconst 0 dX5_kinds_29 (k := ?_)
    refine VE_istore (ls' := [(8, vI 0), (7, vI (σ2 27 a1.toNatClampNeg)), (6, vI r1), (0, vR 23), (1, vI a1), (2, vI a2), (3, vI a3), (4, vI a4), (5, vI a5)]) dX5_kinds_30 ?_
    refine VE_iconst 0 dX5_kinds_32 (k := ?_)
    refine VE_istore (ls' := [(9, vI 0), (8, vI 0), (7, vI (σ2 27 a1.toNatClampNeg)), (6, vI r1), (0, vR 23), (1, vI a1), (2, vI a2), (3, vI a3), (4, vI a4), (5, vI a5)]) dX5_kinds_33 ?_
    exact VE_sub [4, 5, 6, 7, 8, 9, 3, 2, 1, 0] rfl (h3.1 c4).2
  · refine VE_iload 0 dX5_kinds_18 (k := ?_)
    exact VM_iret dX5_kinds_20 (h3.2 c4)
set_option maxRecDepth 20000 in
theorem S_X5_kinds_35 {g : GG} {d : Nat} {F : Int32 → St → Prop} (x1 : Int32) (x2 : Int32) (x3 : Int32) (x4 : Int32) (x5 : Int32) (x6 : Int32) (x7 : Int32) (x8 : Int32) (x9 : Int32) (σ : St) (h : ((3 ≤ x9 → (vp_in x1 5 ∧ F x8 (sU σ 27 x1.toNatClampNeg x7))) ∧ (¬ 3 ≤ x9 → (vp_in x1 5 ∧ (ME g d M_X5_areSo [vR 23] (sU σ 27 x1.toNatClampNeg x9) (qI (fun r2 σ3 => ((r2 = 0 → VM g (d + 1) M_X5_kinds (qI F) 35 [(0, vR 23), (1, vI x1), (2, vI x2), (3, vI x3), (4, vI x4), (5, vI x5), (6, vI x6), (7, vI x7), (8, vI (x8 ||| 0)), (9, vI (x9 + 1))] [] σ3) ∧ (¬ r2 = 0 → VM g (d + 1) M_X5_kinds (qI F) 35 [(0, vR 23), (1, vI x1), (2, vI x2), (3, vI x3), (4, vI x4), (5, vI x5), (6, vI x6), (7, vI x7), (8, vI (x8 ||| (1 <<< (x9 &&& 31)))), (9, vI (x9 + 1))] [] σ3))))))))) : VM g (d + 1) M_X5_kinds (qI F) 35 [(0, vR 23), (1, vI x1), (2, vI x2), (3, vI x3), (4, vI x4), (5, vI x5), (6, vI x6), (7, vI x7), (8, vI x8), (9, vI x9)] [] σ := by
  refine VE_iload 9 dX5_kinds_35 (k := ?_)
  refine VE_iconst 3 dX5_kinds_37 (k := ?_)
  refine VE_icmp_ge 75 dX5_kinds_38 (fun c1 => ?_) (fun c1 => ?_)
  · refine VE_aload_n 0 dX5_kinds_75 (k := ?_)
    refine VE_getR 27 dX5_kinds_76 fl_X5_19 ?_
    refine VE_iload_n 1 dX5_kinds_79 (k := ?_)
    refine VE_iload 7 dX5_kinds_80 (k := ?_)
    refine VE_iast dX5_kinds_82 (h.1 c1).1 ?_
    refine VE_iload 8 dX5_kinds_83 (k := ?_)
    exact VM_iret dX5_kinds_85 (h.1 c1).2
  · refine VE_aload_n 0 dX5_kinds_41 (k := ?_)
    refine VE_getR 27 dX5_kinds_42 fl_X5_19 ?_
    refine VE_iload_n 1 dX5_kinds_45 (k := ?_)
    refine VE_iload 9 dX5_kinds_46 (k := ?_)
    refine VE_iast dX5_kinds_48 (h.2 c1).1 ?_
    refine VE_iload 8 dX5_kinds_49 (k := ?_)
    refine VE_aload_n 0 dX5_kinds_51 (k := ?_)
    refine VE_cVi [] dX5_kinds_52 ml_X5_166 (h.2 c1).2 (fun r2 σ3 h4 => ?_) (rok_D d)
    refine VE_if_eq 65 dX5_kinds_55 (fun c5 => ?_) (fun c5 => ?_)
    · refine VE_iconst 0 dX5_kinds_65 (k := ?_)
      refine VE_ior dX5_kinds_66 ?_
      refine VE_istore (ls' := [(8, vI (x8 ||| 0)), (0, vR 23), (1, vI x1), (2, vI x2), (3, vI x3), (4, vI x4), (5, vI x5), (6, vI x6), (7, vI x7), (9, vI x9)]) dX5_kinds_67 ?_
      refine VE_iinc 9 (x9 + 1) (ls' := [(9, vI (x9 + 1)), (8, vI (x8 ||| 0)), (0, vR 23), (1, vI x1), (2, vI x2), (3, vI x3), (4, vI x4), (5, vI x5), (6, vI x6), (7, vI x7)]) dX5_kinds_69 ?_
      refine VE_goto 35 dX5_kinds_72 ?_
      exact VE_sub [2, 3, 4, 5, 6, 7, 8, 9, 1, 0] rfl (h4.1 c5)
    · refine VE_iconst 1 dX5_kinds_58 (k := ?_)
      refine VE_iload 9 dX5_kinds_59 (k := ?_)
      refine VE_ishl dX5_kinds_61 ?_
      refine VE_goto 66 dX5_kinds_62 ?_
      refine VE_ior dX5_kinds_66 ?_
      refine VE_istore (ls' := [(8, vI (x8 ||| (1 <<< (x9 &&& 31)))), (0, vR 23), (1, vI x1), (2, vI x2), (3, vI x3), (4, vI x4), (5, vI x5), (6, vI x6), (7, vI x7), (9, vI x9)]) dX5_kinds_67 ?_
      refine VE_iinc 9 (x9 + 1) (ls' := [(9, vI (x9 + 1)), (8, vI (x8 ||| (1 <<< (x9 &&& 31)))), (0, vR 23), (1, vI x1), (2, vI x2), (3, vI x3), (4, vI x4), (5, vI x5), (6, vI x6), (7, vI x7)]) dX5_kinds_69 ?_
      refine VE_goto 35 dX5_kinds_72 ?_
      exact VE_sub [2, 3, 4, 5, 6, 7, 8, 9, 1, 0] rfl (h4.2 c5)
theorem dX5_wears_0 : decode cX5_wears 0 = .ok (.aload_n 0, 1) := by decide +kernel
theorem dX5_wears_1 : decode cX5_wears 1 = .ok (.iload_n 1, 1) := by decide +kernel
theorem dX5_wears_2 : decode cX5_wears 2 = .ok (.iload_n 2, 1) := by decide +kernel
theorem dX5_wears_3 : decode cX5_wears 3 = .ok (.iload_n 3, 1) := by decide +kernel
theorem dX5_wears_4 : decode cX5_wears 4 = .ok (.iload 4, 2) := by decide +kernel
theorem dX5_wears_6 : decode cX5_wears 6 = .ok (.iload 5, 2) := by decide +kernel
theorem dX5_wears_8 : decode cX5_wears 8 = .ok (.invokevirtual 170, 3) := by decide +kernel
theorem dX5_wears_11 : decode cX5_wears 11 = .ok (.istore 6, 2) := by decide +kernel
theorem dX5_wears_13 : decode cX5_wears 13 = .ok (.iload 6, 2) := by decide +kernel
theorem dX5_wears_15 : decode cX5_wears 15 = .ok (.ifCond .eq 6, 3) := by decide +kernel
theorem dX5_wears_18 : decode cX5_wears 18 = .ok (.iload 6, 2) := by decide +kernel
theorem dX5_wears_20 : decode cX5_wears 20 = .ok (.ireturn, 1) := by decide +kernel
theorem dX5_wears_21 : decode cX5_wears 21 = .ok (.aload_n 0, 1) := by decide +kernel
theorem dX5_wears_22 : decode cX5_wears 22 = .ok (.getfield 22, 3) := by decide +kernel
theorem dX5_wears_25 : decode cX5_wears 25 = .ok (.iload_n 1, 1) := by decide +kernel
theorem dX5_wears_26 : decode cX5_wears 26 = .ok (.iaload, 1) := by decide +kernel
theorem dX5_wears_27 : decode cX5_wears 27 = .ok (.istore 7, 2) := by decide +kernel
theorem dX5_wears_29 : decode cX5_wears 29 = .ok (.iconst 0, 1) := by decide +kernel
theorem dX5_wears_30 : decode cX5_wears 30 = .ok (.istore 8, 2) := by decide +kernel
theorem dX5_wears_32 : decode cX5_wears 32 = .ok (.iconst 1, 1) := by decide +kernel
theorem dX5_wears_33 : decode cX5_wears 33 = .ok (.istore 9, 2) := by decide +kernel
theorem dX5_wears_35 : decode cX5_wears 35 = .ok (.iload 9, 2) := by decide +kernel
theorem dX5_wears_37 : decode cX5_wears 37 = .ok (.bipush 9, 2) := by decide +kernel
theorem dX5_wears_39 : decode cX5_wears 39 = .ok (.if_icmp .gt 37, 3) := by decide +kernel
theorem dX5_wears_42 : decode cX5_wears 42 = .ok (.aload_n 0, 1) := by decide +kernel
theorem dX5_wears_43 : decode cX5_wears 43 = .ok (.getfield 22, 3) := by decide +kernel
theorem dX5_wears_46 : decode cX5_wears 46 = .ok (.iload_n 1, 1) := by decide +kernel
theorem dX5_wears_47 : decode cX5_wears 47 = .ok (.iload 9, 2) := by decide +kernel
theorem dX5_wears_49 : decode cX5_wears 49 = .ok (.iastore, 1) := by decide +kernel
theorem dX5_wears_50 : decode cX5_wears 50 = .ok (.iload 8, 2) := by decide +kernel
theorem dX5_wears_52 : decode cX5_wears 52 = .ok (.aload_n 0, 1) := by decide +kernel
theorem dX5_wears_53 : decode cX5_wears 53 = .ok (.invokevirtual 166, 3) := by decide +kernel
theorem dX5_wears_56 : decode cX5_wears 56 = .ok (.ifCond .eq 10, 3) := by decide +kernel
theorem dX5_wears_59 : decode cX5_wears 59 = .ok (.iconst 1, 1) := by decide +kernel
theorem dX5_wears_60 : decode cX5_wears 60 = .ok (.iload 9, 2) := by decide +kernel
theorem dX5_wears_62 : decode cX5_wears 62 = .ok (.ishl, 1) := by decide +kernel
theorem dX5_wears_63 : decode cX5_wears 63 = .ok (.goto 4, 3) := by decide +kernel
theorem dX5_wears_66 : decode cX5_wears 66 = .ok (.iconst 0, 1) := by decide +kernel
theorem dX5_wears_67 : decode cX5_wears 67 = .ok (.ior, 1) := by decide +kernel
theorem dX5_wears_68 : decode cX5_wears 68 = .ok (.istore 8, 2) := by decide +kernel
theorem dX5_wears_70 : decode cX5_wears 70 = .ok (.iinc 9 1, 3) := by decide +kernel
theorem dX5_wears_73 : decode cX5_wears 73 = .ok (.goto (-38), 3) := by decide +kernel
theorem dX5_wears_76 : decode cX5_wears 76 = .ok (.aload_n 0, 1) := by decide +kernel
theorem dX5_wears_77 : decode cX5_wears 77 = .ok (.getfield 22, 3) := by decide +kernel
theorem dX5_wears_80 : decode cX5_wears 80 = .ok (.iload_n 1, 1) := by decide +kernel
theorem dX5_wears_81 : decode cX5_wears 81 = .ok (.iload 7, 2) := by decide +kernel
theorem dX5_wears_83 : decode cX5_wears 83 = .ok (.iastore, 1) := by decide +kernel
theorem dX5_wears_84 : decode cX5_wears 84 = .ok (.iload 8, 2) := by decide +kernel
theorem dX5_wears_86 : decode cX5_wears 86 = .ok (.ireturn, 1) := by decide +kernel
set_option maxRecDepth 20000 in
theorem S_X5_wears_0 {g : GG} {d : Nat} {F : Int32 → St → Prop} (a1 : Int32) (a2 : Int32) (a3 : Int32) (a4 : Int32) (a5 : Int32) (σ : St) (h : (ME g d M_X5_lay [vR 23, vI a1, vI a2, vI a3, vI a4, vI a5] σ (qI (fun r1 σ2 => ((r1 = 0 → (vp_in a1 5 ∧ VM g (d + 1) M_X5_wears (qI F) 35 [(0, vR 23), (1, vI a1), (2, vI a2), (3, vI a3), (4, vI a4), (5, vI a5), (6, vI r1), (7, vI (σ2 28 a1.toNatClampNeg)), (8, vI 0), (9, vI 1)] [] σ2)) ∧ (¬ r1 = 0 → F r1 σ2)))))) : VM g (d + 1) M_X5_wears (qI F) 0 [(0, vR 23), (1, vI a1), (2, vI a2), (3, vI a3), (4, vI a4), (5, vI a5)] [] σ := by
  refine VE_aload_n 0 dX5_wears_0 (k := ?_)
  refine VE_iload_n 1 dX5_wears_1 (k := ?_)
  refine VE_iload_n 2 dX5_wears_2 (k := ?_)
  refine VE_iload_n 3 dX5_wears_3 (k := ?_)
  refine VE_iload 4 dX5_wears_4 (k := ?_)
  refine VE_iload 5 dX5_wears_6 (k := ?_)
  refine VE_cVi [vI a1, vI a2, vI a3, vI a4, vI a5] dX5_wears_8 ml_X5_170 h (fun r1 σ2 h3 => ?_) (rok_D d)
  refine VE_istore (ls' := [(6, vI r1), (0, vR 23), (1, vI a1), (2, vI a2), (3, vI a3), (4, vI a4), (5, vI a5)]) dX5_wears_11 ?_
  refine VE_iload 0 dX5_wears_13 (k := ?_)
  refine VE_if_eq 21 dX5_wears_15 (fun c4 => ?_) (fun c4 => ?_)
  · refine VE_aload_n 1 dX5_wears_21 (k := ?_)
    refine VE_getR 28 dX5_wears_22 fl_X5_22 ?_
    refine VE_iload_n 2 dX5_wears_25 (k := ?_)
    refine VE_iald dX5_wears_26 (h3.1 c4).1 ?_
    refine VE_istore (ls' := [(7, vI (σ2 28 a1.toNatClampNeg)), (6, vI r1), (0, vR 23), (1, vI a1), (2, vI a2), (3, vI a3), (4, vI a4), (5, vI a5)]) dX5_wears_27 ?_
    refine VE_iconst 0 dX5_wears_29 (k := ?_)
    refine VE_istore (ls' := [(8, vI 0), (7, vI (σ2 28 a1.toNatClampNeg)), (6, vI r1), (0, vR 23), (1, vI a1), (2, vI a2), (3, vI a3), (4, vI a4), (5, vI a5)]) dX5_wears_30 ?_
    refine VE_iconst 1 dX5_wears_32 (k := ?_)
    refine VE_istore (ls' := [(9, vI 1), (8, vI 0), (7, vI (σ2 28 a1.toNatClampNeg)), (6, vI r1), (0, vR 23), (1, vI a1), (2, vI a2), (3, vI a3), (4, vI a4), (5, vI a5)]) dX5_wears_33 ?_
    exact VE_sub [4, 5, 6, 7, 8, 9, 3, 2, 1, 0] rfl (h3.1 c4).2
  · refine VE_iload 0 dX5_wears_18 (k := ?_)
    exact VM_iret dX5_wears_20 (h3.2 c4)
set_option maxRecDepth 20000 in
theorem S_X5_wears_35 {g : GG} {d : Nat} {F : Int32 → St → Prop} (x1 : Int32) (x2 : Int32) (x3 : Int32) (x4 : Int32) (x5 : Int32) (x6 : Int32) (x7 : Int32) (x8 : Int32) (x9 : Int32) (σ : St) (h : ((9 < x9 → (vp_in x1 5 ∧ F x8 (sU σ 28 x1.toNatClampNeg x7))) ∧ (¬ 9 < x9 → (vp_in x1 5 ∧ (ME g d M_X5_areSo [vR 23] (sU σ 28 x1.toNatClampNeg x9) (qI (fun r2 σ3 => ((r2 = 0 → VM g (d + 1) M_X5_wears (qI F) 35 [(0, vR 23), (1, vI x1), (2, vI x2), (3, vI x3), (4, vI x4), (5, vI x5), (6, vI x6), (7, vI x7), (8, vI (x8 ||| 0)), (9, vI (x9 + 1))] [] σ3) ∧ (¬ r2 = 0 → VM g (d + 1) M_X5_wears (qI F) 35 [(0, vR 23), (1, vI x1), (2, vI x2), (3, vI x3), (4, vI x4), (5, vI x5), (6, vI x6), (7, vI x7), (8, vI (x8 ||| (1 <<< (x9 &&& 31)))), (9, vI (x9 + 1))] [] σ3))))))))) : VM g (d + 1) M_X5_wears (qI F) 35 [(0, vR 23), (1, vI x1), (2, vI x2), (3, vI x3), (4, vI x4), (5, vI x5), (6, vI x6), (7, vI x7), (8, vI x8), (9, vI x9)] [] σ := by
  refine VE_iload 9 dX5_wears_35 (k := ?_)
  refine VE_bipush 9 dX5_wears_37 (k := ?_)
  refine VE_icmp_gt 76 dX5_wears_39 (fun c1 => ?_) (fun c1 => ?_)
  · refine VE_aload_n 0 dX5_wears_76 (k := ?_)
    refine VE_getR 28 dX5_wears_77 fl_X5_22 ?_
    refine VE_iload_n 1 dX5_wears_80 (k := ?_)
    refine VE_iload 7 dX5_wears_81 (k := ?_)
    refine VE_iast dX5_wears_83 (h.1 c1).1 ?_
    refine VE_iload 8 dX5_wears_84 (k := ?_)
    exact VM_iret dX5_wears_86 (h.1 c1).2
  · refine VE_aload_n 0 dX5_wears_42 (k := ?_)
    refine VE_getR 28 dX5_wears_43 fl_X5_22 ?_
    refine VE_iload_n 1 dX5_wears_46 (k := ?_)
    refine VE_iload 9 dX5_wears_47 (k := ?_)
    refine VE_iast dX5_wears_49 (h.2 c1).1 ?_
    refine VE_iload 8 dX5_wears_50 (k := ?_)
    refine VE_aload_n 0 dX5_wears_52 (k := ?_)
    refine VE_cVi [] dX5_wears_53 ml_X5_166 (h.2 c1).2 (fun r2 σ3 h4 => ?_) (rok_D d)
    refine VE_if_eq 66 dX5_wears_56 (fun c5 => ?_) (fun c5 => ?_)
    · refine VE_iconst 0 dX5_wears_66 (k := ?_)
      refine VE_ior dX5_wears_67 ?_
      refine VE_istore (ls' := [(8, vI (x8 ||| 0)), (0, vR 23), (1, vI x1), (2, vI x2), (3, vI x3), (4, vI x4), (5, vI x5), (6, vI x6), (7, vI x7), (9, vI x9)]) dX5_wears_68 ?_
      refine VE_iinc 9 (x9 + 1) (ls' := [(9, vI (x9 + 1)), (8, vI (x8 ||| 0)), (0, vR 23), (1, vI x1), (2, vI x2), (3, vI x3), (4, vI x4), (5, vI x5), (6, vI x6), (7, vI x7)]) dX5_wears_70 ?_
      refine VE_goto 35 dX5_wears_73 ?_
      exact VE_sub [2, 3, 4, 5, 6, 7, 8, 9, 1, 0] rfl (h4.1 c5)
    · refine VE_iconst 1 dX5_wears_59 (k := ?_)
      refine VE_iload 9 dX5_wears_60 (k := ?_)
      refine VE_ishl dX5_wears_62 ?_
      refine VE_goto 67 dX5_wears_63 ?_
      refine VE_ior dX5_wears_67 ?_
      refine VE_istore (ls' := [(8, vI (x8 ||| (1 <<< (x9 &&& 31)))), (0, vR 23), (1, vI x1), (2, vI x2), (3, vI x3), (4, vI x4), (5, vI x5), (6, vI x6), (7, vI x7), (9, vI x9)]) dX5_wears_68 ?_
      refine VE_iinc 9 (x9 + 1) (ls' := [(9, vI (x9 + 1)), (8, vI (x8 ||| (1 <<< (x9 &&& 31)))), (0, vR 23), (1, vI x1), (2, vI x2), (3, vI x3), (4, vI x4), (5, vI x5), (6, vI x6), (7, vI x7)]) dX5_wears_70 ?_
      refine VE_goto 35 dX5_wears_73 ?_
      exact VE_sub [2, 3, 4, 5, 6, 7, 8, 9, 1, 0] rfl (h4.2 c5)
theorem dX5_inLeastTerms_0 : decode cX5_inLeastTerms 0 = .ok (.lload_n 0, 1) := by decide +kernel
theorem dX5_inLeastTerms_1 : decode cX5_inLeastTerms 1 = .ok (.lstore 5, 2) := by decide +kernel
theorem dX5_inLeastTerms_3 : decode cX5_inLeastTerms 3 = .ok (.lload_n 2, 1) := by decide +kernel
theorem dX5_inLeastTerms_4 : decode cX5_inLeastTerms 4 = .ok (.lstore 7, 2) := by decide +kernel
theorem dX5_inLeastTerms_6 : decode cX5_inLeastTerms 6 = .ok (.lload 7, 2) := by decide +kernel
theorem dX5_inLeastTerms_8 : decode cX5_inLeastTerms 8 = .ok (.lconst 0, 1) := by decide +kernel
theorem dX5_inLeastTerms_9 : decode cX5_inLeastTerms 9 = .ok (.lcmp, 1) := by decide +kernel
theorem dX5_inLeastTerms_10 : decode cX5_inLeastTerms 10 = .ok (.ifCond .eq 21, 3) := by decide +kernel
theorem dX5_inLeastTerms_13 : decode cX5_inLeastTerms 13 = .ok (.lload 5, 2) := by decide +kernel
theorem dX5_inLeastTerms_15 : decode cX5_inLeastTerms 15 = .ok (.lload 7, 2) := by decide +kernel
theorem dX5_inLeastTerms_17 : decode cX5_inLeastTerms 17 = .ok (.lrem, 1) := by decide +kernel
theorem dX5_inLeastTerms_18 : decode cX5_inLeastTerms 18 = .ok (.lstore 9, 2) := by decide +kernel
theorem dX5_inLeastTerms_20 : decode cX5_inLeastTerms 20 = .ok (.lload 7, 2) := by decide +kernel
theorem dX5_inLeastTerms_22 : decode cX5_inLeastTerms 22 = .ok (.lstore 5, 2) := by decide +kernel
theorem dX5_inLeastTerms_24 : decode cX5_inLeastTerms 24 = .ok (.lload 9, 2) := by decide +kernel
theorem dX5_inLeastTerms_26 : decode cX5_inLeastTerms 26 = .ok (.lstore 7, 2) := by decide +kernel
theorem dX5_inLeastTerms_28 : decode cX5_inLeastTerms 28 = .ok (.goto (-22), 3) := by decide +kernel
theorem dX5_inLeastTerms_31 : decode cX5_inLeastTerms 31 = .ok (.iload 4, 2) := by decide +kernel
theorem dX5_inLeastTerms_33 : decode cX5_inLeastTerms 33 = .ok (.ifCond .ne 10, 3) := by decide +kernel
theorem dX5_inLeastTerms_36 : decode cX5_inLeastTerms 36 = .ok (.lload_n 0, 1) := by decide +kernel
theorem dX5_inLeastTerms_37 : decode cX5_inLeastTerms 37 = .ok (.lload 5, 2) := by decide +kernel
theorem dX5_inLeastTerms_39 : decode cX5_inLeastTerms 39 = .ok (.ldiv, 1) := by decide +kernel
theorem dX5_inLeastTerms_40 : decode cX5_inLeastTerms 40 = .ok (.goto 7, 3) := by decide +kernel
theorem dX5_inLeastTerms_43 : decode cX5_inLeastTerms 43 = .ok (.lload_n 2, 1) := by decide +kernel
theorem dX5_inLeastTerms_44 : decode cX5_inLeastTerms 44 = .ok (.lload 5, 2) := by decide +kernel
theorem dX5_inLeastTerms_46 : decode cX5_inLeastTerms 46 = .ok (.ldiv, 1) := by decide +kernel
theorem dX5_inLeastTerms_47 : decode cX5_inLeastTerms 47 = .ok (.lreturn, 1) := by decide +kernel
set_option maxRecDepth 20000 in
theorem S_X5_inLeastTerms_0 {g : GG} {d : Nat} {F : Int64 → St → Prop} (a1 : Int64) (a2 : Int64) (a3 : Int32) (σ : St) (h : VM g d M_X5_inLeastTerms (qL F) 6 [(0, vL a1), (2, vL a2), (4, vI a3), (5, vL a1), (7, vL a2)] [] σ) : VM g d M_X5_inLeastTerms (qL F) 0 [(0, vL a1), (2, vL a2), (4, vI a3)] [] σ := by
  refine VE_lload_n 0 dX5_inLeastTerms_0 (k := ?_)
  refine VE_lstore (ls' := [(5, vL a1), (0, vL a1), (2, vL a2), (4, vI a3)]) dX5_inLeastTerms_1 ?_
  refine VE_lload_n 2 dX5_inLeastTerms_3 (k := ?_)
  refine VE_lstore (ls' := [(7, vL a2), (5, vL a1), (0, vL a1), (2, vL a2), (4, vI a3)]) dX5_inLeastTerms_4 ?_
  exact VE_sub [2, 3, 4, 1, 0] rfl h
set_option maxRecDepth 20000 in
theorem S_X5_inLeastTerms_6 {g : GG} {d : Nat} {F : Int64 → St → Prop} (x0 : Int64) (x2 : Int64) (x4 : Int32) (x5 : Int64) (x7 : Int64) (σ : St) (h : (((lg_cmp x7 0) = 0 → ((¬ x4 = 0 → (¬ x5 = 0 ∧ F (x2 / x5) σ)) ∧ (x4 = 0 → (¬ x5 = 0 ∧ F (x0 / x5) σ)))) ∧ (¬ (lg_cmp x7 0) = 0 → (¬ x7 = 0 ∧ VM g d M_X5_inLeastTerms (qL F) 6 [(0, vL x0), (2, vL x2), (4, vI x4), (5, vL x7), (7, vL (x5 - x5 / x7 * x7))] [] σ)))) : VM g d M_X5_inLeastTerms (qL F) 6 [(0, vL x0), (2, vL x2), (4, vI x4), (5, vL x5), (7, vL x7)] [] σ := by
  refine VE_lload 4 dX5_inLeastTerms_6 (k := ?_)
  refine VE_lconst 0 dX5_inLeastTerms_8 (k := ?_)
  refine VE_lcmp dX5_inLeastTerms_9 ?_
  refine VE_if_eq 31 dX5_inLeastTerms_10 (fun c1 => ?_) (fun c1 => ?_)
  · refine VE_iload 2 dX5_inLeastTerms_31 (k := ?_)
    refine VE_if_ne 43 dX5_inLeastTerms_33 (fun c2 => ?_) (fun c2 => ?_)
    · refine VE_lload_n 1 dX5_inLeastTerms_43 (k := ?_)
      refine VE_lload 3 dX5_inLeastTerms_44 (k := ?_)
      refine VE_ldiv dX5_inLeastTerms_46 ((h.1 c1).1 c2).1 ?_
      exact VM_lret dX5_inLeastTerms_47 ((h.1 c1).1 c2).2
    · refine VE_lload_n 0 dX5_inLeastTerms_36 (k := ?_)
      refine VE_lload 3 dX5_inLeastTerms_37 (k := ?_)
      refine VE_ldiv dX5_inLeastTerms_39 ((h.1 c1).2 c2).1 ?_
      refine VE_goto 47 dX5_inLeastTerms_40 ?_
      exact VM_lret dX5_inLeastTerms_47 ((h.1 c1).2 c2).2
  · refine VE_lload 3 dX5_inLeastTerms_13 (k := ?_)
    refine VE_lload 4 dX5_inLeastTerms_15 (k := ?_)
    refine VE_lrem dX5_inLeastTerms_17 (h.2 c1).1 ?_
    refine VE_lstore (ls' := [(9, vL (x5 - x5 / x7 * x7)), (0, vL x0), (2, vL x2), (4, vI x4), (5, vL x5), (7, vL x7)]) dX5_inLeastTerms_18 ?_
    refine VE_lload 5 dX5_inLeastTerms_20 (k := ?_)
    refine VE_lstore (ls' := [(5, vL x7), (9, vL (x5 - x5 / x7 * x7)), (0, vL x0), (2, vL x2), (4, vI x4), (7, vL x7)]) dX5_inLeastTerms_22 ?_
    refine VE_lload 1 dX5_inLeastTerms_24 (k := ?_)
    refine VE_lstore (ls' := [(7, vL (x5 - x5 / x7 * x7)), (5, vL x7), (9, vL (x5 - x5 / x7 * x7)), (0, vL x0), (2, vL x2), (4, vI x4)]) dX5_inLeastTerms_26 ?_
    refine VE_goto 6 dX5_inLeastTerms_28 ?_
    exact VE_sub [3, 4, 5, 1, 0] rfl (h.2 c1).2
theorem dX5_odds_0 : decode cX5_odds 0 = .ok (.aload_n 0, 1) := by decide +kernel
theorem dX5_odds_1 : decode cX5_odds 1 = .ok (.iload_n 1, 1) := by decide +kernel
theorem dX5_odds_2 : decode cX5_odds 2 = .ok (.invokevirtual 100, 3) := by decide +kernel
theorem dX5_odds_5 : decode cX5_odds 5 = .ok (.ifCond .eq 30, 3) := by decide +kernel
theorem dX5_odds_8 : decode cX5_odds 8 = .ok (.aload_n 0, 1) := by decide +kernel
theorem dX5_odds_9 : decode cX5_odds 9 = .ok (.iload_n 2, 1) := by decide +kernel
theorem dX5_odds_10 : decode cX5_odds 10 = .ok (.invokevirtual 100, 3) := by decide +kernel
theorem dX5_odds_13 : decode cX5_odds 13 = .ok (.ifCond .eq 22, 3) := by decide +kernel
theorem dX5_odds_16 : decode cX5_odds 16 = .ok (.iload_n 3, 1) := by decide +kernel
theorem dX5_odds_17 : decode cX5_odds 17 = .ok (.iconst 0, 1) := by decide +kernel
theorem dX5_odds_18 : decode cX5_odds 18 = .ok (.iconst 5, 1) := by decide +kernel
theorem dX5_odds_19 : decode cX5_odds 19 = .ok (.invokestatic 55, 3) := by decide +kernel
theorem dX5_odds_22 : decode cX5_odds 22 = .ok (.ifCond .eq 13, 3) := by decide +kernel
theorem dX5_odds_25 : decode cX5_odds 25 = .ok (.iload 4, 2) := by decide +kernel
theorem dX5_odds_27 : decode cX5_odds 27 = .ok (.iconst 0, 1) := by decide +kernel
theorem dX5_odds_28 : decode cX5_odds 28 = .ok (.iconst 1, 1) := by decide +kernel
theorem dX5_odds_29 : decode cX5_odds 29 = .ok (.invokestatic 55, 3) := by decide +kernel
theorem dX5_odds_32 : decode cX5_odds 32 = .ok (.ifCond .ne 7, 3) := by decide +kernel
theorem dX5_odds_35 : decode cX5_odds 35 = .ok (.ldc2_w 53, 3) := by decide +kernel
theorem dX5_odds_38 : decode cX5_odds 38 = .ok (.lreturn, 1) := by decide +kernel
theorem dX5_odds_39 : decode cX5_odds 39 = .ok (.iconst 1, 1) := by decide +kernel
theorem dX5_odds_40 : decode cX5_odds 40 = .ok (.istore 5, 2) := by decide +kernel
theorem dX5_odds_42 : decode cX5_odds 42 = .ok (.iconst 0, 1) := by decide +kernel
theorem dX5_odds_43 : decode cX5_odds 43 = .ok (.istore 6, 2) := by decide +kernel
theorem dX5_odds_45 : decode cX5_odds 45 = .ok (.iload 6, 2) := by decide +kernel
theorem dX5_odds_47 : decode cX5_odds 47 = .ok (.iload_n 3, 1) := by decide +kernel
theorem dX5_odds_48 : decode cX5_odds 48 = .ok (.if_icmp .ge 18, 3) := by decide +kernel
theorem dX5_odds_51 : decode cX5_odds 51 = .ok (.iload 5, 2) := by decide +kernel
theorem dX5_odds_53 : decode cX5_odds 53 = .ok (.aload_n 0, 1) := by decide +kernel
theorem dX5_odds_54 : decode cX5_odds 54 = .ok (.getfield 59, 3) := by decide +kernel
theorem dX5_odds_57 : decode cX5_odds 57 = .ok (.imul, 1) := by decide +kernel
theorem dX5_odds_58 : decode cX5_odds 58 = .ok (.istore 5, 2) := by decide +kernel
theorem dX5_odds_60 : decode cX5_odds 60 = .ok (.iinc 6 1, 3) := by decide +kernel
theorem dX5_odds_63 : decode cX5_odds 63 = .ok (.goto (-18), 3) := by decide +kernel
theorem dX5_odds_66 : decode cX5_odds 66 = .ok (.iconst 0, 1) := by decide +kernel
theorem dX5_odds_67 : decode cX5_odds 67 = .ok (.istore 6, 2) := by decide +kernel
theorem dX5_odds_69 : decode cX5_odds 69 = .ok (.iconst 0, 1) := by decide +kernel
theorem dX5_odds_70 : decode cX5_odds 70 = .ok (.istore 7, 2) := by decide +kernel
theorem dX5_odds_72 : decode cX5_odds 72 = .ok (.iload 7, 2) := by decide +kernel
theorem dX5_odds_74 : decode cX5_odds 74 = .ok (.iload 5, 2) := by decide +kernel
theorem dX5_odds_76 : decode cX5_odds 76 = .ok (.if_icmp .ge 45, 3) := by decide +kernel
theorem dX5_odds_79 : decode cX5_odds 79 = .ok (.aload_n 0, 1) := by decide +kernel
theorem dX5_odds_80 : decode cX5_odds 80 = .ok (.iload 7, 2) := by decide +kernel
theorem dX5_odds_82 : decode cX5_odds 82 = .ok (.iload_n 3, 1) := by decide +kernel
theorem dX5_odds_83 : decode cX5_odds 83 = .ok (.invokevirtual 156, 3) := by decide +kernel
theorem dX5_odds_86 : decode cX5_odds 86 = .ok (.iload 6, 2) := by decide +kernel
theorem dX5_odds_88 : decode cX5_odds 88 = .ok (.aload_n 0, 1) := by decide +kernel
theorem dX5_odds_89 : decode cX5_odds 89 = .ok (.invokevirtual 131, 3) := by decide +kernel
theorem dX5_odds_92 : decode cX5_odds 92 = .ok (.bipush (-9), 2) := by decide +kernel
theorem dX5_odds_94 : decode cX5_odds 94 = .ok (.if_icmp .ne 17, 3) := by decide +kernel
theorem dX5_odds_97 : decode cX5_odds 97 = .ok (.aload_n 0, 1) := by decide +kernel
theorem dX5_odds_98 : decode cX5_odds 98 = .ok (.getfield 31, 3) := by decide +kernel
theorem dX5_odds_101 : decode cX5_odds 101 = .ok (.iload_n 1, 1) := by decide +kernel
theorem dX5_odds_102 : decode cX5_odds 102 = .ok (.iaload, 1) := by decide +kernel
theorem dX5_odds_103 : decode cX5_odds 103 = .ok (.iload_n 2, 1) := by decide +kernel
theorem dX5_odds_104 : decode cX5_odds 104 = .ok (.if_icmp .ne 7, 3) := by decide +kernel
theorem dX5_odds_107 : decode cX5_odds 107 = .ok (.iconst 1, 1) := by decide +kernel
theorem dX5_odds_108 : decode cX5_odds 108 = .ok (.goto 4, 3) := by decide +kernel
theorem dX5_odds_111 : decode cX5_odds 111 = .ok (.iconst 0, 1) := by decide +kernel
theorem dX5_odds_112 : decode cX5_odds 112 = .ok (.iadd, 1) := by decide +kernel
theorem dX5_odds_113 : decode cX5_odds 113 = .ok (.istore 6, 2) := by decide +kernel
theorem dX5_odds_115 : decode cX5_odds 115 = .ok (.iinc 7 1, 3) := by decide +kernel
theorem dX5_odds_118 : decode cX5_odds 118 = .ok (.goto (-46), 3) := by decide +kernel
theorem dX5_odds_121 : decode cX5_odds 121 = .ok (.iload 6, 2) := by decide +kernel
theorem dX5_odds_123 : decode cX5_odds 123 = .ok (.i2l, 1) := by decide +kernel
theorem dX5_odds_124 : decode cX5_odds 124 = .ok (.iload 5, 2) := by decide +kernel
theorem dX5_odds_126 : decode cX5_odds 126 = .ok (.i2l, 1) := by decide +kernel
theorem dX5_odds_127 : decode cX5_odds 127 = .ok (.iload 4, 2) := by decide +kernel
theorem dX5_odds_129 : decode cX5_odds 129 = .ok (.invokestatic 174, 3) := by decide +kernel
theorem dX5_odds_132 : decode cX5_odds 132 = .ok (.lreturn, 1) := by decide +kernel
set_option maxRecDepth 20000 in
theorem S_X5_odds_0 {g : GG} {d : Nat} {F : Int64 → St → Prop} (a1 : Int32) (a2 : Int32) (a3 : Int32) (a4 : Int32) (σ : St) (h : (ME g d M_X5_isHead [vR 23, vI a1] σ (qI (fun r1 σ2 => ((r1 = 0 → F (-9223372036854775808) σ2) ∧ (¬ r1 = 0 → (ME g d M_X5_isHead [vR 23, vI a2] σ2 (qI (fun r5 σ6 => ((r5 = 0 → F (-9223372036854775808) σ6) ∧ (¬ r5 = 0 → (ME g d M_X5_within [vI a3, vI 0, vI 5] σ6 (qI (fun r9 σ10 => ((r9 = 0 → F (-9223372036854775808) σ10) ∧ (¬ r9 = 0 → (ME g d M_X5_within [vI a4, vI 0, vI 1] σ10 (qI (fun r13 σ14 => ((¬ r13 = 0 → VM g (d + 1) M_X5_odds (qL F) 45 [(0, vR 23), (1, vI a1), (2, vI a2), (3, vI a3), (4, vI a4), (5, vI 1), (6, vI 0)] [] σ14) ∧ (r13 = 0 → F (-9223372036854775808) σ14))))))))))))))))))))) : VM g (d + 1) M_X5_odds (qL F) 0 [(0, vR 23), (1, vI a1), (2, vI a2), (3, vI a3), (4, vI a4)] [] σ := by
  refine VE_aload_n 0 dX5_odds_0 (k := ?_)
  refine VE_iload_n 1 dX5_odds_1 (k := ?_)
  refine VE_cVi [vI a1] dX5_odds_2 ml_X5_100 h (fun r1 σ2 h3 => ?_) (rok_D d)
  refine VE_if_eq 35 dX5_odds_5 (fun c4 => ?_) (fun c4 => ?_)
  · refine VE_ldc2 (-9223372036854775808) 695 dX5_odds_35 ⟨by decide +kernel, rfl⟩ ?_
    exact VM_lret dX5_odds_38 (h3.1 c4)
  · refine VE_aload_n 0 dX5_odds_8 (k := ?_)
    refine VE_iload_n 2 dX5_odds_9 (k := ?_)
    refine VE_cVi [vI a2] dX5_odds_10 ml_X5_100 (h3.2 c4) (fun r5 σ6 h7 => ?_) (rok_D d)
    refine VE_if_eq 35 dX5_odds_13 (fun c8 => ?_) (fun c8 => ?_)
    · refine VE_ldc2 (-9223372036854775808) 695 dX5_odds_35 ⟨by decide +kernel, rfl⟩ ?_
      exact VM_lret dX5_odds_38 (h7.1 c8)
    · refine VE_iload_n 3 dX5_odds_16 (k := ?_)
      refine VE_iconst 0 dX5_odds_17 (k := ?_)
      refine VE_iconst 5 dX5_odds_18 (k := ?_)
      refine VE_cSi [vI a3, vI 0, vI 5] dX5_odds_19 ml_X5_55 (h7.2 c8) (fun r9 σ10 h11 => ?_) (rok_D d)
      refine VE_if_eq 35 dX5_odds_22 (fun c12 => ?_) (fun c12 => ?_)
      · refine VE_ldc2 (-9223372036854775808) 695 dX5_odds_35 ⟨by decide +kernel, rfl⟩ ?_
        exact VM_lret dX5_odds_38 (h11.1 c12)
      · refine VE_iload 4 dX5_odds_25 (k := ?_)
        refine VE_iconst 0 dX5_odds_27 (k := ?_)
        refine VE_iconst 1 dX5_odds_28 (k := ?_)
        refine VE_cSi [vI a4, vI 0, vI 1] dX5_odds_29 ml_X5_55 (h11.2 c12) (fun r13 σ14 h15 => ?_) (rok_D d)
        refine VE_if_ne 39 dX5_odds_32 (fun c16 => ?_) (fun c16 => ?_)
        · refine VE_iconst 1 dX5_odds_39 (k := ?_)
          refine VE_istore (ls' := [(5, vI 1), (0, vR 23), (1, vI a1), (2, vI a2), (3, vI a3), (4, vI a4)]) dX5_odds_40 ?_
          refine VE_iconst 0 dX5_odds_42 (k := ?_)
          refine VE_istore (ls' := [(6, vI 0), (5, vI 1), (0, vR 23), (1, vI a1), (2, vI a2), (3, vI a3), (4, vI a4)]) dX5_odds_43 ?_
          exact VE_sub [2, 3, 4, 5, 6, 1, 0] rfl (h15.1 c16)
        · refine VE_ldc2 (-9223372036854775808) 695 dX5_odds_35 ⟨by decide +kernel, rfl⟩ ?_
          exact VM_lret dX5_odds_38 (h15.2 c16)
set_option maxRecDepth 20000 in
theorem S_X5_odds_45 {g : GG} {d : Nat} {F : Int64 → St → Prop} (x1 : Int32) (x2 : Int32) (x3 : Int32) (x4 : Int32) (x5 : Int32) (x6 : Int32) (σ : St) (h : ((x3 ≤ x6 → VM g (d + 1) M_X5_odds (qL F) 72 [(0, vR 23), (1, vI x1), (2, vI x2), (3, vI x3), (4, vI x4), (5, vI x5), (6, vI 0), (7, vI 0)] [] σ) ∧ (¬ x3 ≤ x6 → VM g (d + 1) M_X5_odds (qL F) 45 [(0, vR 23), (1, vI x1), (2, vI x2), (3, vI x3), (4, vI x4), (5, vI (x5 * (σ 23 5))), (6, vI (x6 + 1))] [] σ))) : VM g (d + 1) M_X5_odds (qL F) 45 [(0, vR 23), (1, vI x1), (2, vI x2), (3, vI x3), (4, vI x4), (5, vI x5), (6, vI x6)] [] σ := by
  refine VE_iload 6 dX5_odds_45 (k := ?_)
  refine VE_iload_n 3 dX5_odds_47 (k := ?_)
  refine VE_icmp_ge 66 dX5_odds_48 (fun c1 => ?_) (fun c1 => ?_)
  · refine VE_iconst 0 dX5_odds_66 (k := ?_)
    refine VE_istore (ls' := [(6, vI 0), (0, vR 23), (1, vI x1), (2, vI x2), (3, vI x3), (4, vI x4), (5, vI x5)]) dX5_odds_67 ?_
    refine VE_iconst 0 dX5_odds_69 (k := ?_)
    refine VE_istore (ls' := [(7, vI 0), (6, vI 0), (0, vR 23), (1, vI x1), (2, vI x2), (3, vI x3), (4, vI x4), (5, vI x5)]) dX5_odds_70 ?_
    exact VE_sub [2, 3, 4, 5, 6, 7, 1, 0] rfl (h.1 c1)
  · refine VE_iload 5 dX5_odds_51 (k := ?_)
    refine VE_aload_n 0 dX5_odds_53 (k := ?_)
    refine VE_getI dX5_odds_54 fl_X5_59 ?_
    refine VE_imul dX5_odds_57 ?_
    refine VE_istore (ls' := [(5, vI (x5 * (σ 23 5))), (0, vR 23), (1, vI x1), (2, vI x2), (3, vI x3), (4, vI x4), (6, vI x6)]) dX5_odds_58 ?_
    refine VE_iinc 6 (x6 + 1) (ls' := [(6, vI (x6 + 1)), (5, vI (x5 * (σ 23 5))), (0, vR 23), (1, vI x1), (2, vI x2), (3, vI x3), (4, vI x4)]) dX5_odds_60 ?_
    refine VE_goto 45 dX5_odds_63 ?_
    exact VE_sub [2, 3, 4, 5, 6, 1, 0] rfl (h.2 c1)
set_option maxRecDepth 20000 in
theorem S_X5_odds_72 {g : GG} {d : Nat} {F : Int64 → St → Prop} (x1 : Int32) (x2 : Int32) (x3 : Int32) (x4 : Int32) (x5 : Int32) (x6 : Int32) (x7 : Int32) (σ : St) (h : ((x5 ≤ x7 → (ME g d M_X5_inLeastTerms [vL x6.toInt64, vL x5.toInt64, vI x4] σ (qL (fun r2 σ3 => F r2 σ3)))) ∧ (¬ x5 ≤ x7 → (ME g d M_X5_layRow [vR 23, vI x7, vI x3] σ (qV (fun σ6 => (ME g d M_X5_go [vR 23] σ6 (qI (fun r8 σ9 => ((¬ r8 = (-9) → VM g (d + 1) M_X5_odds (qL F) 72 [(0, vR 23), (1, vI x1), (2, vI x2), (3, vI x3), (4, vI x4), (5, vI x5), (6, vI (x6 + 0)), (7, vI (x7 + 1))] [] σ9) ∧ (r8 = (-9) → (vp_in x1 5 ∧ ((¬ (σ9 31 x1.toNatClampNeg) = x2 → VM g (d + 1) M_X5_odds (qL F) 72 [(0, vR 23), (1, vI x1), (2, vI x2), (3, vI x3), (4, vI x4), (5, vI x5), (6, vI (x6 + 0)), (7, vI (x7 + 1))] [] σ9) ∧ ((σ9 31 x1.toNatClampNeg) = x2 → VM g (d + 1) M_X5_odds (qL F) 72 [(0, vR 23), (1, vI x1), (2, vI x2), (3, vI x3), (4, vI x4), (5, vI x5), (6, vI (x6 + 1)), (7, vI (x7 + 1))] [] σ9)))))))))))))) : VM g (d + 1) M_X5_odds (qL F) 72 [(0, vR 23), (1, vI x1), (2, vI x2), (3, vI x3), (4, vI x4), (5, vI x5), (6, vI x6), (7, vI x7)] [] σ := by
  refine VE_iload 7 dX5_odds_72 (k := ?_)
  refine VE_iload 5 dX5_odds_74 (k := ?_)
  refine VE_icmp_ge 121 dX5_odds_76 (fun c1 => ?_) (fun c1 => ?_)
  · refine VE_iload 6 dX5_odds_121 (k := ?_)
    refine VE_i2l dX5_odds_123 ?_
    refine VE_iload 5 dX5_odds_124 (k := ?_)
    refine VE_i2l dX5_odds_126 ?_
    refine VE_iload 4 dX5_odds_127 (k := ?_)
    refine VE_cSl [vL x6.toInt64, vL x5.toInt64, vI x4] dX5_odds_129 ml_X5_174 (h.1 c1) (fun r2 σ3 h4 => ?_) (rok_D d)
    exact VM_lret dX5_odds_132 h4
  · refine VE_aload_n 0 dX5_odds_79 (k := ?_)
    refine VE_iload 7 dX5_odds_80 (k := ?_)
    refine VE_iload_n 3 dX5_odds_82 (k := ?_)
    refine VE_cVv [vI x7, vI x3] dX5_odds_83 ml_X5_156 (h.2 c1) (fun σ6 h7 => ?_) (rok_D d)
    refine VE_iload 6 dX5_odds_86 (k := ?_)
    refine VE_aload_n 0 dX5_odds_88 (k := ?_)
    refine VE_cVi [] dX5_odds_89 ml_X5_131 h7 (fun r8 σ9 h10 => ?_) (rok_D d)
    refine VE_bipush (-9) dX5_odds_92 (k := ?_)
    refine VE_icmp_ne 111 dX5_odds_94 (fun c11 => ?_) (fun c11 => ?_)
    · refine VE_iconst 0 dX5_odds_111 (k := ?_)
      refine VE_iadd dX5_odds_112 ?_
      refine VE_istore (ls' := [(6, vI (x6 + 0)), (0, vR 23), (1, vI x1), (2, vI x2), (3, vI x3), (4, vI x4), (5, vI x5), (7, vI x7)]) dX5_odds_113 ?_
      refine VE_iinc 7 (x7 + 1) (ls' := [(7, vI (x7 + 1)), (6, vI (x6 + 0)), (0, vR 23), (1, vI x1), (2, vI x2), (3, vI x3), (4, vI x4), (5, vI x5)]) dX5_odds_115 ?_
      refine VE_goto 72 dX5_odds_118 ?_
      exact VE_sub [2, 3, 4, 5, 6, 7, 1, 0] rfl (h10.1 c11)
    · refine VE_aload_n 0 dX5_odds_97 (k := ?_)
      refine VE_getR 31 dX5_odds_98 fl_X5_31 ?_
      refine VE_iload_n 1 dX5_odds_101 (k := ?_)
      refine VE_iald dX5_odds_102 (h10.2 c11).1 ?_
      refine VE_iload_n 2 dX5_odds_103 (k := ?_)
      refine VE_icmp_ne 111 dX5_odds_104 (fun c12 => ?_) (fun c12 => ?_)
      · refine VE_iconst 0 dX5_odds_111 (k := ?_)
        refine VE_iadd dX5_odds_112 ?_
        refine VE_istore (ls' := [(6, vI (x6 + 0)), (0, vR 23), (1, vI x1), (2, vI x2), (3, vI x3), (4, vI x4), (5, vI x5), (7, vI x7)]) dX5_odds_113 ?_
        refine VE_iinc 7 (x7 + 1) (ls' := [(7, vI (x7 + 1)), (6, vI (x6 + 0)), (0, vR 23), (1, vI x1), (2, vI x2), (3, vI x3), (4, vI x4), (5, vI x5)]) dX5_odds_115 ?_
        refine VE_goto 72 dX5_odds_118 ?_
        exact VE_sub [2, 3, 4, 5, 6, 7, 1, 0] rfl ((h10.2 c11).2.1 c12)
      · refine VE_iconst 1 dX5_odds_107 (k := ?_)
        refine VE_goto 112 dX5_odds_108 ?_
        refine VE_iadd dX5_odds_112 ?_
        refine VE_istore (ls' := [(6, vI (x6 + 1)), (0, vR 23), (1, vI x1), (2, vI x2), (3, vI x3), (4, vI x4), (5, vI x5), (7, vI x7)]) dX5_odds_113 ?_
        refine VE_iinc 7 (x7 + 1) (ls' := [(7, vI (x7 + 1)), (6, vI (x6 + 1)), (0, vR 23), (1, vI x1), (2, vI x2), (3, vI x3), (4, vI x4), (5, vI x5)]) dX5_odds_115 ?_
        refine VE_goto 72 dX5_odds_118 ?_
        exact VE_sub [2, 3, 4, 5, 6, 7, 1, 0] rfl ((h10.2 c11).2.2 c12)
theorem dX5_sheet_0 : decode cX5_sheet 0 = .ok (.aload_n 0, 1) := by decide +kernel
theorem dX5_sheet_1 : decode cX5_sheet 1 = .ok (.iconst 0, 1) := by decide +kernel
theorem dX5_sheet_2 : decode cX5_sheet 2 = .ok (.putfield 49, 3) := by decide +kernel
theorem dX5_sheet_5 : decode cX5_sheet 5 = .ok (.iload_n 1, 1) := by decide +kernel
theorem dX5_sheet_6 : decode cX5_sheet 6 = .ok (.invokestatic 65, 3) := by decide +kernel
theorem dX5_sheet_9 : decode cX5_sheet 9 = .ok (.ifCond .ne 5, 3) := by decide +kernel
theorem dX5_sheet_12 : decode cX5_sheet 12 = .ok (.iconst (-1), 1) := by decide +kernel
theorem dX5_sheet_13 : decode cX5_sheet 13 = .ok (.ireturn, 1) := by decide +kernel
theorem dX5_sheet_14 : decode cX5_sheet 14 = .ok (.iload_n 2, 1) := by decide +kernel
theorem dX5_sheet_15 : decode cX5_sheet 15 = .ok (.invokestatic 69, 3) := by decide +kernel
theorem dX5_sheet_18 : decode cX5_sheet 18 = .ok (.ifCond .eq 9, 3) := by decide +kernel
theorem dX5_sheet_21 : decode cX5_sheet 21 = .ok (.iload_n 3, 1) := by decide +kernel
theorem dX5_sheet_22 : decode cX5_sheet 22 = .ok (.bipush 60, 2) := by decide +kernel
theorem dX5_sheet_24 : decode cX5_sheet 24 = .ok (.if_icmp .le 6, 3) := by decide +kernel
theorem dX5_sheet_27 : decode cX5_sheet 27 = .ok (.bipush (-2), 2) := by decide +kernel
theorem dX5_sheet_29 : decode cX5_sheet 29 = .ok (.ireturn, 1) := by decide +kernel
theorem dX5_sheet_30 : decode cX5_sheet 30 = .ok (.iload_n 3, 1) := by decide +kernel
theorem dX5_sheet_31 : decode cX5_sheet 31 = .ok (.ifCond .ge 9, 3) := by decide +kernel
theorem dX5_sheet_34 : decode cX5_sheet 34 = .ok (.aload_n 0, 1) := by decide +kernel
theorem dX5_sheet_35 : decode cX5_sheet 35 = .ok (.iconst 4, 1) := by decide +kernel
theorem dX5_sheet_36 : decode cX5_sheet 36 = .ok (.invokevirtual 76, 3) := by decide +kernel
theorem dX5_sheet_39 : decode cX5_sheet 39 = .ok (.ireturn, 1) := by decide +kernel
theorem dX5_sheet_40 : decode cX5_sheet 40 = .ok (.aload_n 0, 1) := by decide +kernel
theorem dX5_sheet_41 : decode cX5_sheet 41 = .ok (.getfield 9, 3) := by decide +kernel
theorem dX5_sheet_44 : decode cX5_sheet 44 = .ok (.iload_n 1, 1) := by decide +kernel
theorem dX5_sheet_45 : decode cX5_sheet 45 = .ok (.iload_n 2, 1) := by decide +kernel
theorem dX5_sheet_46 : decode cX5_sheet 46 = .ok (.iastore, 1) := by decide +kernel
theorem dX5_sheet_47 : decode cX5_sheet 47 = .ok (.aload_n 0, 1) := by decide +kernel
theorem dX5_sheet_48 : decode cX5_sheet 48 = .ok (.getfield 13, 3) := by decide +kernel
theorem dX5_sheet_51 : decode cX5_sheet 51 = .ok (.iload_n 1, 1) := by decide +kernel
theorem dX5_sheet_52 : decode cX5_sheet 52 = .ok (.iload_n 3, 1) := by decide +kernel
theorem dX5_sheet_53 : decode cX5_sheet 53 = .ok (.iastore, 1) := by decide +kernel
theorem dX5_sheet_54 : decode cX5_sheet 54 = .ok (.iconst 0, 1) := by decide +kernel
theorem dX5_sheet_55 : decode cX5_sheet 55 = .ok (.istore 4, 2) := by decide +kernel
theorem dX5_sheet_57 : decode cX5_sheet 57 = .ok (.iload 4, 2) := by decide +kernel
theorem dX5_sheet_59 : decode cX5_sheet 59 = .ok (.bipush 60, 2) := by decide +kernel
theorem dX5_sheet_61 : decode cX5_sheet 61 = .ok (.if_icmp .ge 22, 3) := by decide +kernel
theorem dX5_sheet_64 : decode cX5_sheet 64 = .ok (.aload_n 0, 1) := by decide +kernel
theorem dX5_sheet_65 : decode cX5_sheet 65 = .ok (.getfield 16, 3) := by decide +kernel
theorem dX5_sheet_68 : decode cX5_sheet 68 = .ok (.bipush 60, 2) := by decide +kernel
theorem dX5_sheet_70 : decode cX5_sheet 70 = .ok (.iload_n 1, 1) := by decide +kernel
theorem dX5_sheet_71 : decode cX5_sheet 71 = .ok (.imul, 1) := by decide +kernel
theorem dX5_sheet_72 : decode cX5_sheet 72 = .ok (.iload 4, 2) := by decide +kernel
theorem dX5_sheet_74 : decode cX5_sheet 74 = .ok (.iadd, 1) := by decide +kernel
theorem dX5_sheet_75 : decode cX5_sheet 75 = .ok (.iconst 0, 1) := by decide +kernel
theorem dX5_sheet_76 : decode cX5_sheet 76 = .ok (.iastore, 1) := by decide +kernel
theorem dX5_sheet_77 : decode cX5_sheet 77 = .ok (.iinc 4 1, 3) := by decide +kernel
theorem dX5_sheet_80 : decode cX5_sheet 80 = .ok (.goto (-23), 3) := by decide +kernel
theorem dX5_sheet_83 : decode cX5_sheet 83 = .ok (.iconst 1, 1) := by decide +kernel
theorem dX5_sheet_84 : decode cX5_sheet 84 = .ok (.ireturn, 1) := by decide +kernel
set_option maxRecDepth 20000 in
theorem S_X5_sheet_0 {g : GG} {d : Nat} {F : Int32 → St → Prop} (a1 : Int32) (a2 : Int32) (a3 : Int32) (σ : St) (h : (ME g d M_X5_isSheet [vI a1] (sU σ 23 0 0) (qI (fun r1 σ2 => ((¬ r1 = 0 → (ME g d M_X5_isSort [vI a2] σ2 (qI (fun r5 σ6 => ((r5 = 0 → F (-2) σ6) ∧ (¬ r5 = 0 → ((a3 ≤ 60 → ((0 ≤ a3 → (vp_in a1 4 ∧ VM g (d + 1) M_X5_sheet (qI F) 57 [(0, vR 23), (1, vI a1), (2, vI a2), (3, vI a3), (4, vI 0)] [] (sU (sU σ6 24 a1.toNatClampNeg a2) 25 a1.toNatClampNeg a3))) ∧ (¬ 0 ≤ a3 → (ME g d M_X5_fails [vR 23, vI 4] σ6 (qI (fun r11 σ12 => F r11 σ12)))))) ∧ (¬ a3 ≤ 60 → F (-2) σ6)))))))) ∧ (r1 = 0 → F (-1) σ2)))))) : VM g (d + 1) M_X5_sheet (qI F) 0 [(0, vR 23), (1, vI a1), (2, vI a2), (3, vI a3)] [] σ := by
  refine VE_aload_n 0 dX5_sheet_0 (k := ?_)
  refine VE_iconst 0 dX5_sheet_1 (k := ?_)
  refine VE_put dX5_sheet_2 fl_X5_49 ?_
  refine VE_iload_n 1 dX5_sheet_5 (k := ?_)
  refine VE_cSi [vI a1] dX5_sheet_6 ml_X5_65 h (fun r1 σ2 h3 => ?_) (rok_D d)
  refine VE_if_ne 14 dX5_sheet_9 (fun c4 => ?_) (fun c4 => ?_)
  · refine VE_iload_n 2 dX5_sheet_14 (k := ?_)
    refine VE_cSi [vI a2] dX5_sheet_15 ml_X5_69 (h3.1 c4) (fun r5 σ6 h7 => ?_) (rok_D d)
    refine VE_if_eq 27 dX5_sheet_18 (fun c8 => ?_) (fun c8 => ?_)
    · refine VE_bipush (-2) dX5_sheet_27 (k := ?_)
      exact VM_iret dX5_sheet_29 (h7.1 c8)
    · refine VE_iload_n 3 dX5_sheet_21 (k := ?_)
      refine VE_bipush 60 dX5_sheet_22 (k := ?_)
      refine VE_icmp_le 30 dX5_sheet_24 (fun c9 => ?_) (fun c9 => ?_)
      · refine VE_iload_n 3 dX5_sheet_30 (k := ?_)
        refine VE_if_ge 40 dX5_sheet_31 (fun c10 => ?_) (fun c10 => ?_)
        · refine VE_aload_n 0 dX5_sheet_40 (k := ?_)
          refine VE_getR 24 dX5_sheet_41 fl_X5_9 ?_
          refine VE_iload_n 1 dX5_sheet_44 (k := ?_)
          refine VE_iload_n 2 dX5_sheet_45 (k := ?_)
          refine VE_iast dX5_sheet_46 (((h7.2 c8).1 c9).1 c10).1 ?_
          refine VE_aload_n 0 dX5_sheet_47 (k := ?_)
          refine VE_getR 25 dX5_sheet_48 fl_X5_13 ?_
          refine VE_iload_n 1 dX5_sheet_51 (k := ?_)
          refine VE_iload_n 3 dX5_sheet_52 (k := ?_)
          refine VE_iast dX5_sheet_53 (((h7.2 c8).1 c9).1 c10).1 ?_
          refine VE_iconst 0 dX5_sheet_54 (k := ?_)
          refine VE_istore (ls' := [(4, vI 0), (0, vR 23), (1, vI a1), (2, vI a2), (3, vI a3)]) dX5_sheet_55 ?_
          exact VE_sub [1, 2, 3, 4, 0] rfl (((h7.2 c8).1 c9).1 c10).2
        · refine VE_aload_n 0 dX5_sheet_34 (k := ?_)
          refine VE_iconst 4 dX5_sheet_35 (k := ?_)
          refine VE_cVi [vI 4] dX5_sheet_36 ml_X5_76 (((h7.2 c8).1 c9).2 c10) (fun r11 σ12 h13 => ?_) (rok_D d)
          exact VM_iret dX5_sheet_39 h13
      · refine VE_bipush (-2) dX5_sheet_27 (k := ?_)
        exact VM_iret dX5_sheet_29 ((h7.2 c8).2 c9)
  · refine VE_iconst (-1) dX5_sheet_12 (k := ?_)
    exact VM_iret dX5_sheet_13 (h3.2 c4)
set_option maxRecDepth 20000 in
theorem S_X5_sheet_57 {g : GG} {d : Nat} {F : Int32 → St → Prop} (x1 : Int32) (x2 : Int32) (x3 : Int32) (x4 : Int32) (σ : St) (h : ((60 ≤ x4 → F 1 σ) ∧ (¬ 60 ≤ x4 → (vp_in ((60 * x1) + x4) 240 ∧ VM g (d + 1) M_X5_sheet (qI F) 57 [(0, vR 23), (1, vI x1), (2, vI x2), (3, vI x3), (4, vI (x4 + 1))] [] (sU σ 26 (((60 * x1) + x4).toNatClampNeg) 0))))) : VM g (d + 1) M_X5_sheet (qI F) 57 [(0, vR 23), (1, vI x1), (2, vI x2), (3, vI x3), (4, vI x4)] [] σ := by
  refine VE_iload 4 dX5_sheet_57 (k := ?_)
  refine VE_bipush 60 dX5_sheet_59 (k := ?_)
  refine VE_icmp_ge 83 dX5_sheet_61 (fun c1 => ?_) (fun c1 => ?_)
  · refine VE_iconst 1 dX5_sheet_83 (k := ?_)
    exact VM_iret dX5_sheet_84 (h.1 c1)
  · refine VE_aload_n 0 dX5_sheet_64 (k := ?_)
    refine VE_getR 26 dX5_sheet_65 fl_X5_16 ?_
    refine VE_bipush 60 dX5_sheet_68 (k := ?_)
    refine VE_iload_n 1 dX5_sheet_70 (k := ?_)
    refine VE_imul dX5_sheet_71 ?_
    refine VE_iload 4 dX5_sheet_72 (k := ?_)
    refine VE_iadd dX5_sheet_74 ?_
    refine VE_iconst 0 dX5_sheet_75 (k := ?_)
    refine VE_iast dX5_sheet_76 (h.2 c1).1 ?_
    refine VE_iinc 4 (x4 + 1) (ls' := [(4, vI (x4 + 1)), (0, vR 23), (1, vI x1), (2, vI x2), (3, vI x3)]) dX5_sheet_77 ?_
    refine VE_goto 57 dX5_sheet_80 ?_
    exact VE_sub [1, 2, 3, 4, 0] rfl (h.2 c1).2
theorem dX5_lose_0 : decode cX5_lose 0 = .ok (.iload_n 1, 1) := by decide +kernel
theorem dX5_lose_1 : decode cX5_lose 1 = .ok (.invokestatic 65, 3) := by decide +kernel
theorem dX5_lose_4 : decode cX5_lose 4 = .ok (.ifCond .ne 5, 3) := by decide +kernel
theorem dX5_lose_7 : decode cX5_lose 7 = .ok (.iconst (-1), 1) := by decide +kernel
theorem dX5_lose_8 : decode cX5_lose 8 = .ok (.ireturn, 1) := by decide +kernel
theorem dX5_lose_9 : decode cX5_lose 9 = .ok (.aload_n 0, 1) := by decide +kernel
theorem dX5_lose_10 : decode cX5_lose 10 = .ok (.getfield 9, 3) := by decide +kernel
theorem dX5_lose_13 : decode cX5_lose 13 = .ok (.iload_n 1, 1) := by decide +kernel
theorem dX5_lose_14 : decode cX5_lose 14 = .ok (.iaload, 1) := by decide +kernel
theorem dX5_lose_15 : decode cX5_lose 15 = .ok (.bipush (-9), 2) := by decide +kernel
theorem dX5_lose_17 : decode cX5_lose 17 = .ok (.if_icmp .ne 7, 3) := by decide +kernel
theorem dX5_lose_20 : decode cX5_lose 20 = .ok (.iconst 0, 1) := by decide +kernel
theorem dX5_lose_21 : decode cX5_lose 21 = .ok (.goto 4, 3) := by decide +kernel
theorem dX5_lose_24 : decode cX5_lose 24 = .ok (.iconst 1, 1) := by decide +kernel
theorem dX5_lose_25 : decode cX5_lose 25 = .ok (.istore_n 2, 1) := by decide +kernel
theorem dX5_lose_26 : decode cX5_lose 26 = .ok (.aload_n 0, 1) := by decide +kernel
theorem dX5_lose_27 : decode cX5_lose 27 = .ok (.getfield 9, 3) := by decide +kernel
theorem dX5_lose_30 : decode cX5_lose 30 = .ok (.iload_n 1, 1) := by decide +kernel
theorem dX5_lose_31 : decode cX5_lose 31 = .ok (.bipush (-9), 2) := by decide +kernel
theorem dX5_lose_33 : decode cX5_lose 33 = .ok (.iastore, 1) := by decide +kernel
theorem dX5_lose_34 : decode cX5_lose 34 = .ok (.iload_n 2, 1) := by decide +kernel
theorem dX5_lose_35 : decode cX5_lose 35 = .ok (.ireturn, 1) := by decide +kernel
set_option maxRecDepth 20000 in
theorem S_X5_lose_0 {g : GG} {d : Nat} {F : Int32 → St → Prop} (a1 : Int32) (σ : St) (h : (ME g d M_X5_isSheet [vI a1] σ (qI (fun r1 σ2 => ((¬ r1 = 0 → (vp_in a1 4 ∧ ((¬ (σ2 24 a1.toNatClampNeg) = (-9) → F 1 (sU σ2 24 a1.toNatClampNeg (-9))) ∧ ((σ2 24 a1.toNatClampNeg) = (-9) → F 0 (sU σ2 24 a1.toNatClampNeg (-9)))))) ∧ (r1 = 0 → F (-1) σ2)))))) : VM g (d + 1) M_X5_lose (qI F) 0 [(0, vR 23), (1, vI a1)] [] σ := by
  refine VE_iload_n 1 dX5_lose_0 (k := ?_)
  refine VE_cSi [vI a1] dX5_lose_1 ml_X5_65 h (fun r1 σ2 h3 => ?_) (rok_D d)
  refine VE_if_ne 9 dX5_lose_4 (fun c4 => ?_) (fun c4 => ?_)
  · refine VE_aload_n 0 dX5_lose_9 (k := ?_)
    refine VE_getR 24 dX5_lose_10 fl_X5_9 ?_
    refine VE_iload_n 1 dX5_lose_13 (k := ?_)
    refine VE_iald dX5_lose_14 (h3.1 c4).1 ?_
    refine VE_bipush (-9) dX5_lose_15 (k := ?_)
    refine VE_icmp_ne 24 dX5_lose_17 (fun c5 => ?_) (fun c5 => ?_)
    · refine VE_iconst 1 dX5_lose_24 (k := ?_)
      refine VE_istore_n (ls' := [(2, vI 1), (0, vR 23), (1, vI a1)]) dX5_lose_25 ?_
      refine VE_aload_n 1 dX5_lose_26 (k := ?_)
      refine VE_getR 24 dX5_lose_27 fl_X5_9 ?_
      refine VE_iload_n 2 dX5_lose_30 (k := ?_)
      refine VE_bipush (-9) dX5_lose_31 (k := ?_)
      refine VE_iast dX5_lose_33 (h3.1 c4).1 ?_
      refine VE_iload_n 0 dX5_lose_34 (k := ?_)
      exact VM_iret dX5_lose_35 ((h3.1 c4).2.1 c5)
    · refine VE_iconst 0 dX5_lose_20 (k := ?_)
      refine VE_goto 25 dX5_lose_21 ?_
      refine VE_istore_n (ls' := [(2, vI 0), (0, vR 23), (1, vI a1)]) dX5_lose_25 ?_
      refine VE_aload_n 1 dX5_lose_26 (k := ?_)
      refine VE_getR 24 dX5_lose_27 fl_X5_9 ?_
      refine VE_iload_n 2 dX5_lose_30 (k := ?_)
      refine VE_bipush (-9) dX5_lose_31 (k := ?_)
      refine VE_iast dX5_lose_33 (h3.1 c4).1 ?_
      refine VE_iload_n 0 dX5_lose_34 (k := ?_)
      exact VM_iret dX5_lose_35 ((h3.1 c4).2.2 c5)
  · refine VE_iconst (-1) dX5_lose_7 (k := ?_)
    exact VM_iret dX5_lose_8 (h3.2 c4)
theorem dX5_put_0 : decode cX5_put 0 = .ok (.aload_n 0, 1) := by decide +kernel
theorem dX5_put_1 : decode cX5_put 1 = .ok (.iconst 0, 1) := by decide +kernel
theorem dX5_put_2 : decode cX5_put 2 = .ok (.putfield 49, 3) := by decide +kernel
theorem dX5_put_5 : decode cX5_put 5 = .ok (.iload_n 1, 1) := by decide +kernel
theorem dX5_put_6 : decode cX5_put 6 = .ok (.invokestatic 65, 3) := by decide +kernel
theorem dX5_put_9 : decode cX5_put 9 = .ok (.ifCond .ne 5, 3) := by decide +kernel
theorem dX5_put_12 : decode cX5_put 12 = .ok (.iconst (-1), 1) := by decide +kernel
theorem dX5_put_13 : decode cX5_put 13 = .ok (.ireturn, 1) := by decide +kernel
theorem dX5_put_14 : decode cX5_put 14 = .ok (.aload_n 0, 1) := by decide +kernel
theorem dX5_put_15 : decode cX5_put 15 = .ok (.getfield 9, 3) := by decide +kernel
theorem dX5_put_18 : decode cX5_put 18 = .ok (.iload_n 1, 1) := by decide +kernel
theorem dX5_put_19 : decode cX5_put 19 = .ok (.iaload, 1) := by decide +kernel
theorem dX5_put_20 : decode cX5_put 20 = .ok (.bipush (-9), 2) := by decide +kernel
theorem dX5_put_22 : decode cX5_put 22 = .ok (.if_icmp .ne 9, 3) := by decide +kernel
theorem dX5_put_25 : decode cX5_put 25 = .ok (.aload_n 0, 1) := by decide +kernel
theorem dX5_put_26 : decode cX5_put 26 = .ok (.iconst 1, 1) := by decide +kernel
theorem dX5_put_27 : decode cX5_put 27 = .ok (.invokevirtual 76, 3) := by decide +kernel
theorem dX5_put_30 : decode cX5_put 30 = .ok (.ireturn, 1) := by decide +kernel
theorem dX5_put_31 : decode cX5_put 31 = .ok (.iload_n 2, 1) := by decide +kernel
theorem dX5_put_32 : decode cX5_put 32 = .ok (.iconst 0, 1) := by decide +kernel
theorem dX5_put_33 : decode cX5_put 33 = .ok (.aload_n 0, 1) := by decide +kernel
theorem dX5_put_34 : decode cX5_put 34 = .ok (.getfield 13, 3) := by decide +kernel
theorem dX5_put_37 : decode cX5_put 37 = .ok (.iload_n 1, 1) := by decide +kernel
theorem dX5_put_38 : decode cX5_put 38 = .ok (.iaload, 1) := by decide +kernel
theorem dX5_put_39 : decode cX5_put 39 = .ok (.iconst 1, 1) := by decide +kernel
theorem dX5_put_40 : decode cX5_put 40 = .ok (.isub, 1) := by decide +kernel
theorem dX5_put_41 : decode cX5_put 41 = .ok (.invokestatic 55, 3) := by decide +kernel
theorem dX5_put_44 : decode cX5_put 44 = .ok (.ifCond .ne 9, 3) := by decide +kernel
theorem dX5_put_47 : decode cX5_put 47 = .ok (.aload_n 0, 1) := by decide +kernel
theorem dX5_put_48 : decode cX5_put 48 = .ok (.iconst 3, 1) := by decide +kernel
theorem dX5_put_49 : decode cX5_put 49 = .ok (.invokevirtual 76, 3) := by decide +kernel
theorem dX5_put_52 : decode cX5_put 52 = .ok (.ireturn, 1) := by decide +kernel
theorem dX5_put_53 : decode cX5_put 53 = .ok (.aload_n 0, 1) := by decide +kernel
theorem dX5_put_54 : decode cX5_put 54 = .ok (.getfield 16, 3) := by decide +kernel
theorem dX5_put_57 : decode cX5_put 57 = .ok (.bipush 60, 2) := by decide +kernel
theorem dX5_put_59 : decode cX5_put 59 = .ok (.iload_n 1, 1) := by decide +kernel
theorem dX5_put_60 : decode cX5_put 60 = .ok (.imul, 1) := by decide +kernel
theorem dX5_put_61 : decode cX5_put 61 = .ok (.iload_n 2, 1) := by decide +kernel
theorem dX5_put_62 : decode cX5_put 62 = .ok (.iadd, 1) := by decide +kernel
theorem dX5_put_63 : decode cX5_put 63 = .ok (.aload_n 0, 1) := by decide +kernel
theorem dX5_put_64 : decode cX5_put 64 = .ok (.getfield 9, 3) := by decide +kernel
theorem dX5_put_67 : decode cX5_put 67 = .ok (.iload_n 1, 1) := by decide +kernel
theorem dX5_put_68 : decode cX5_put 68 = .ok (.iaload, 1) := by decide +kernel
theorem dX5_put_69 : decode cX5_put 69 = .ok (.ifCond .ne 8, 3) := by decide +kernel
theorem dX5_put_72 : decode cX5_put 72 = .ok (.iload_n 3, 1) := by decide +kernel
theorem dX5_put_73 : decode cX5_put 73 = .ok (.i2b, 1) := by decide +kernel
theorem dX5_put_74 : decode cX5_put 74 = .ok (.goto 19, 3) := by decide +kernel
theorem dX5_put_77 : decode cX5_put 77 = .ok (.aload_n 0, 1) := by decide +kernel
theorem dX5_put_78 : decode cX5_put 78 = .ok (.getfield 9, 3) := by decide +kernel
theorem dX5_put_81 : decode cX5_put 81 = .ok (.iload_n 1, 1) := by decide +kernel
theorem dX5_put_82 : decode cX5_put 82 = .ok (.iaload, 1) := by decide +kernel
theorem dX5_put_83 : decode cX5_put 83 = .ok (.iconst 1, 1) := by decide +kernel
theorem dX5_put_84 : decode cX5_put 84 = .ok (.if_icmp .ne 8, 3) := by decide +kernel
theorem dX5_put_87 : decode cX5_put 87 = .ok (.iload_n 3, 1) := by decide +kernel
theorem dX5_put_88 : decode cX5_put 88 = .ok (.i2s, 1) := by decide +kernel
theorem dX5_put_89 : decode cX5_put 89 = .ok (.goto 4, 3) := by decide +kernel
theorem dX5_put_92 : decode cX5_put 92 = .ok (.iload_n 3, 1) := by decide +kernel
theorem dX5_put_93 : decode cX5_put 93 = .ok (.iastore, 1) := by decide +kernel
theorem dX5_put_94 : decode cX5_put 94 = .ok (.iconst 1, 1) := by decide +kernel
theorem dX5_put_95 : decode cX5_put 95 = .ok (.ireturn, 1) := by decide +kernel
set_option maxRecDepth 20000 in
theorem S_X5_put_0 {g : GG} {d : Nat} {F : Int32 → St → Prop} (a1 : Int32) (a2 : Int32) (a3 : Int32) (σ : St) (h : (ME g d M_X5_isSheet [vI a1] (sU σ 23 0 0) (qI (fun r1 σ2 => ((¬ r1 = 0 → (vp_in a1 4 ∧ ((¬ (σ2 24 a1.toNatClampNeg) = (-9) → (ME g d M_X5_within [vI a2, vI 0, vI ((σ2 25 a1.toNatClampNeg) - 1)] σ2 (qI (fun r6 σ7 => ((¬ r6 = 0 → ((¬ (σ7 24 a1.toNatClampNeg) = 0 → ((¬ (σ7 24 a1.toNatClampNeg) = 1 → (vp_in ((60 * a1) + a2) 240 ∧ F 1 (sU σ7 26 (((60 * a1) + a2).toNatClampNeg) a3))) ∧ ((σ7 24 a1.toNatClampNeg) = 1 → (vp_in ((60 * a1) + a2) 240 ∧ F 1 (sU σ7 26 (((60 * a1) + a2).toNatClampNeg) a3.toInt16.toInt32))))) ∧ ((σ7 24 a1.toNatClampNeg) = 0 → (vp_in ((60 * a1) + a2) 240 ∧ F 1 (sU σ7 26 (((60 * a1) + a2).toNatClampNeg) a3.toInt8.toInt32))))) ∧ (r6 = 0 → (ME g d M_X5_fails [vR 23, vI 3] σ7 (qI (fun r12 σ13 => F r12 σ13))))))))) ∧ ((σ2 24 a1.toNatClampNeg) = (-9) → (ME g d M_X5_fails [vR 23, vI 1] σ2 (qI (fun r15 σ16 => F r15 σ16))))))) ∧ (r1 = 0 → F (-1) σ2)))))) : VM g (d + 1) M_X5_put (qI F) 0 [(0, vR 23), (1, vI a1), (2, vI a2), (3, vI a3)] [] σ := by
  refine VE_aload_n 0 dX5_put_0 (k := ?_)
  refine VE_iconst 0 dX5_put_1 (k := ?_)
  refine VE_put dX5_put_2 fl_X5_49 ?_
  refine VE_iload_n 1 dX5_put_5 (k := ?_)
  refine VE_cSi [vI a1] dX5_put_6 ml_X5_65 h (fun r1 σ2 h3 => ?_) (rok_D d)
  refine VE_if_ne 14 dX5_put_9 (fun c4 => ?_) (fun c4 => ?_)
  · refine VE_aload_n 0 dX5_put_14 (k := ?_)
    refine VE_getR 24 dX5_put_15 fl_X5_9 ?_
    refine VE_iload_n 1 dX5_put_18 (k := ?_)
    refine VE_iald dX5_put_19 (h3.1 c4).1 ?_
    refine VE_bipush (-9) dX5_put_20 (k := ?_)
    refine VE_icmp_ne 31 dX5_put_22 (fun c5 => ?_) (fun c5 => ?_)
    · refine VE_iload_n 2 dX5_put_31 (k := ?_)
      refine VE_iconst 0 dX5_put_32 (k := ?_)
      refine VE_aload_n 0 dX5_put_33 (k := ?_)
      refine VE_getR 25 dX5_put_34 fl_X5_13 ?_
      refine VE_iload_n 1 dX5_put_37 (k := ?_)
      refine VE_iald dX5_put_38 (h3.1 c4).1 ?_
      refine VE_iconst 1 dX5_put_39 (k := ?_)
      refine VE_isub dX5_put_40 ?_
      refine VE_cSi [vI a2, vI 0, vI ((σ2 25 a1.toNatClampNeg) - 1)] dX5_put_41 ml_X5_55 ((h3.1 c4).2.1 c5) (fun r6 σ7 h8 => ?_) (rok_D d)
      refine VE_if_ne 53 dX5_put_44 (fun c9 => ?_) (fun c9 => ?_)
      · refine VE_aload_n 0 dX5_put_53 (k := ?_)
        refine VE_getR 26 dX5_put_54 fl_X5_16 ?_
        refine VE_bipush 60 dX5_put_57 (k := ?_)
        refine VE_iload_n 1 dX5_put_59 (k := ?_)
        refine VE_imul dX5_put_60 ?_
        refine VE_iload_n 2 dX5_put_61 (k := ?_)
        refine VE_iadd dX5_put_62 ?_
        refine VE_aload_n 0 dX5_put_63 (k := ?_)
        refine VE_getR 24 dX5_put_64 fl_X5_9 ?_
        refine VE_iload_n 1 dX5_put_67 (k := ?_)
        refine VE_iald dX5_put_68 (h3.1 c4).1 ?_
        refine VE_if_ne 77 dX5_put_69 (fun c10 => ?_) (fun c10 => ?_)
        · refine VE_aload_n 0 dX5_put_77 (k := ?_)
          refine VE_getR 24 dX5_put_78 fl_X5_9 ?_
          refine VE_iload_n 1 dX5_put_81 (k := ?_)
          refine VE_iald dX5_put_82 (h3.1 c4).1 ?_
          refine VE_iconst 1 dX5_put_83 (k := ?_)
          refine VE_icmp_ne 92 dX5_put_84 (fun c11 => ?_) (fun c11 => ?_)
          · refine VE_iload_n 3 dX5_put_92 (k := ?_)
            refine VE_iast dX5_put_93 (((h8.1 c9).1 c10).1 c11).1 ?_
            refine VE_iconst 1 dX5_put_94 (k := ?_)
            exact VM_iret dX5_put_95 (((h8.1 c9).1 c10).1 c11).2
          · refine VE_iload_n 3 dX5_put_87 (k := ?_)
            refine VE_i2s dX5_put_88 ?_
            refine VE_goto 93 dX5_put_89 ?_
            refine VE_iast dX5_put_93 (((h8.1 c9).1 c10).2 c11).1 ?_
            refine VE_iconst 1 dX5_put_94 (k := ?_)
            exact VM_iret dX5_put_95 (((h8.1 c9).1 c10).2 c11).2
        · refine VE_iload_n 3 dX5_put_72 (k := ?_)
          refine VE_i2b dX5_put_73 ?_
          refine VE_goto 93 dX5_put_74 ?_
          refine VE_iast dX5_put_93 ((h8.1 c9).2 c10).1 ?_
          refine VE_iconst 1 dX5_put_94 (k := ?_)
          exact VM_iret dX5_put_95 ((h8.1 c9).2 c10).2
      · refine VE_aload_n 0 dX5_put_47 (k := ?_)
        refine VE_iconst 3 dX5_put_48 (k := ?_)
        refine VE_cVi [vI 3] dX5_put_49 ml_X5_76 (h8.2 c9) (fun r12 σ13 h14 => ?_) (rok_D d)
        exact VM_iret dX5_put_52 h14
    · refine VE_aload_n 0 dX5_put_25 (k := ?_)
      refine VE_iconst 1 dX5_put_26 (k := ?_)
      refine VE_cVi [vI 1] dX5_put_27 ml_X5_76 ((h3.1 c4).2.2 c5) (fun r15 σ16 h17 => ?_) (rok_D d)
      exact VM_iret dX5_put_30 h17
  · refine VE_iconst (-1) dX5_put_12 (k := ?_)
    exact VM_iret dX5_put_13 (h3.2 c4)
theorem dX5_cell_0 : decode cX5_cell 0 = .ok (.aload_n 0, 1) := by decide +kernel
theorem dX5_cell_1 : decode cX5_cell 1 = .ok (.iconst 0, 1) := by decide +kernel
theorem dX5_cell_2 : decode cX5_cell 2 = .ok (.putfield 49, 3) := by decide +kernel
theorem dX5_cell_5 : decode cX5_cell 5 = .ok (.iload_n 1, 1) := by decide +kernel
theorem dX5_cell_6 : decode cX5_cell 6 = .ok (.invokestatic 65, 3) := by decide +kernel
theorem dX5_cell_9 : decode cX5_cell 9 = .ok (.ifCond .eq 10, 3) := by decide +kernel
theorem dX5_cell_12 : decode cX5_cell 12 = .ok (.iload_n 3, 1) := by decide +kernel
theorem dX5_cell_13 : decode cX5_cell 13 = .ok (.invokestatic 69, 3) := by decide +kernel
theorem dX5_cell_16 : decode cX5_cell 16 = .ok (.ifCond .ne 7, 3) := by decide +kernel
theorem dX5_cell_19 : decode cX5_cell 19 = .ok (.ldc2_w 53, 3) := by decide +kernel
theorem dX5_cell_22 : decode cX5_cell 22 = .ok (.lreturn, 1) := by decide +kernel
theorem dX5_cell_23 : decode cX5_cell 23 = .ok (.aload_n 0, 1) := by decide +kernel
theorem dX5_cell_24 : decode cX5_cell 24 = .ok (.getfield 9, 3) := by decide +kernel
theorem dX5_cell_27 : decode cX5_cell 27 = .ok (.iload_n 1, 1) := by decide +kernel
theorem dX5_cell_28 : decode cX5_cell 28 = .ok (.iaload, 1) := by decide +kernel
theorem dX5_cell_29 : decode cX5_cell 29 = .ok (.bipush (-9), 2) := by decide +kernel
theorem dX5_cell_31 : decode cX5_cell 31 = .ok (.if_icmp .eq 19, 3) := by decide +kernel
theorem dX5_cell_34 : decode cX5_cell 34 = .ok (.aload_n 0, 1) := by decide +kernel
theorem dX5_cell_35 : decode cX5_cell 35 = .ok (.getfield 9, 3) := by decide +kernel
theorem dX5_cell_38 : decode cX5_cell 38 = .ok (.iload_n 1, 1) := by decide +kernel
theorem dX5_cell_39 : decode cX5_cell 39 = .ok (.iaload, 1) := by decide +kernel
theorem dX5_cell_40 : decode cX5_cell 40 = .ok (.iload_n 3, 1) := by decide +kernel
theorem dX5_cell_41 : decode cX5_cell 41 = .ok (.if_icmp .eq 9, 3) := by decide +kernel
theorem dX5_cell_44 : decode cX5_cell 44 = .ok (.aload_n 0, 1) := by decide +kernel
theorem dX5_cell_45 : decode cX5_cell 45 = .ok (.iconst 2, 1) := by decide +kernel
theorem dX5_cell_46 : decode cX5_cell 46 = .ok (.invokevirtual 178, 3) := by decide +kernel
theorem dX5_cell_49 : decode cX5_cell 49 = .ok (.lreturn, 1) := by decide +kernel
theorem dX5_cell_50 : decode cX5_cell 50 = .ok (.aload_n 0, 1) := by decide +kernel
theorem dX5_cell_51 : decode cX5_cell 51 = .ok (.getfield 9, 3) := by decide +kernel
theorem dX5_cell_54 : decode cX5_cell 54 = .ok (.iload_n 1, 1) := by decide +kernel
theorem dX5_cell_55 : decode cX5_cell 55 = .ok (.iaload, 1) := by decide +kernel
theorem dX5_cell_56 : decode cX5_cell 56 = .ok (.bipush (-9), 2) := by decide +kernel
theorem dX5_cell_58 : decode cX5_cell 58 = .ok (.if_icmp .ne 9, 3) := by decide +kernel
theorem dX5_cell_61 : decode cX5_cell 61 = .ok (.aload_n 0, 1) := by decide +kernel
theorem dX5_cell_62 : decode cX5_cell 62 = .ok (.iconst 1, 1) := by decide +kernel
theorem dX5_cell_63 : decode cX5_cell 63 = .ok (.invokevirtual 178, 3) := by decide +kernel
theorem dX5_cell_66 : decode cX5_cell 66 = .ok (.lreturn, 1) := by decide +kernel
theorem dX5_cell_67 : decode cX5_cell 67 = .ok (.iload_n 2, 1) := by decide +kernel
theorem dX5_cell_68 : decode cX5_cell 68 = .ok (.iconst 0, 1) := by decide +kernel
theorem dX5_cell_69 : decode cX5_cell 69 = .ok (.aload_n 0, 1) := by decide +kernel
theorem dX5_cell_70 : decode cX5_cell 70 = .ok (.getfield 13, 3) := by decide +kernel
theorem dX5_cell_73 : decode cX5_cell 73 = .ok (.iload_n 1, 1) := by decide +kernel
theorem dX5_cell_74 : decode cX5_cell 74 = .ok (.iaload, 1) := by decide +kernel
theorem dX5_cell_75 : decode cX5_cell 75 = .ok (.iconst 1, 1) := by decide +kernel
theorem dX5_cell_76 : decode cX5_cell 76 = .ok (.isub, 1) := by decide +kernel
theorem dX5_cell_77 : decode cX5_cell 77 = .ok (.invokestatic 55, 3) := by decide +kernel
theorem dX5_cell_80 : decode cX5_cell 80 = .ok (.ifCond .ne 9, 3) := by decide +kernel
theorem dX5_cell_83 : decode cX5_cell 83 = .ok (.aload_n 0, 1) := by decide +kernel
theorem dX5_cell_84 : decode cX5_cell 84 = .ok (.iconst 3, 1) := by decide +kernel
theorem dX5_cell_85 : decode cX5_cell 85 = .ok (.invokevirtual 178, 3) := by decide +kernel
theorem dX5_cell_88 : decode cX5_cell 88 = .ok (.lreturn, 1) := by decide +kernel
theorem dX5_cell_89 : decode cX5_cell 89 = .ok (.aload_n 0, 1) := by decide +kernel
theorem dX5_cell_90 : decode cX5_cell 90 = .ok (.getfield 16, 3) := by decide +kernel
theorem dX5_cell_93 : decode cX5_cell 93 = .ok (.bipush 60, 2) := by decide +kernel
theorem dX5_cell_95 : decode cX5_cell 95 = .ok (.iload_n 1, 1) := by decide +kernel
theorem dX5_cell_96 : decode cX5_cell 96 = .ok (.imul, 1) := by decide +kernel
theorem dX5_cell_97 : decode cX5_cell 97 = .ok (.iload_n 2, 1) := by decide +kernel
theorem dX5_cell_98 : decode cX5_cell 98 = .ok (.iadd, 1) := by decide +kernel
theorem dX5_cell_99 : decode cX5_cell 99 = .ok (.iaload, 1) := by decide +kernel
theorem dX5_cell_100 : decode cX5_cell 100 = .ok (.i2l, 1) := by decide +kernel
theorem dX5_cell_101 : decode cX5_cell 101 = .ok (.lreturn, 1) := by decide +kernel
set_option maxRecDepth 20000 in
theorem S_X5_cell_0 {g : GG} {d : Nat} {F : Int64 → St → Prop} (a1 : Int32) (a2 : Int32) (a3 : Int32) (σ : St) (h : (ME g d M_X5_isSheet [vI a1] (sU σ 23 0 0) (qI (fun r1 σ2 => ((r1 = 0 → F (-9223372036854775808) σ2) ∧ (¬ r1 = 0 → (ME g d M_X5_isSort [vI a3] σ2 (qI (fun r5 σ6 => ((¬ r5 = 0 → (vp_in a1 4 ∧ (((σ6 24 a1.toNatClampNeg) = (-9) → ((¬ (σ6 24 a1.toNatClampNeg) = (-9) → (ME g d M_X5_within [vI a2, vI 0, vI ((σ6 25 a1.toNatClampNeg) - 1)] σ6 (qI (fun r11 σ12 => ((¬ r11 = 0 → (vp_in ((60 * a1) + a2) 240 ∧ F ((σ12 26 (((60 * a1) + a2).toNatClampNeg)).toInt64) σ12)) ∧ (r11 = 0 → (ME g d M_X5_lost [vR 23, vI 3] σ12 (qL (fun r15 σ16 => F r15 σ16))))))))) ∧ ((σ6 24 a1.toNatClampNeg) = (-9) → (ME g d M_X5_lost [vR 23, vI 1] σ6 (qL (fun r18 σ19 => F r18 σ19)))))) ∧ (¬ (σ6 24 a1.toNatClampNeg) = (-9) → (((σ6 24 a1.toNatClampNeg) = a3 → ((¬ (σ6 24 a1.toNatClampNeg) = (-9) → (ME g d M_X5_within [vI a2, vI 0, vI ((σ6 25 a1.toNatClampNeg) - 1)] σ6 (qI (fun r23 σ24 => ((¬ r23 = 0 → (vp_in ((60 * a1) + a2) 240 ∧ F ((σ24 26 (((60 * a1) + a2).toNatClampNeg)).toInt64) σ24)) ∧ (r23 = 0 → (ME g d M_X5_lost [vR 23, vI 3] σ24 (qL (fun r27 σ28 => F r27 σ28))))))))) ∧ ((σ6 24 a1.toNatClampNeg) = (-9) → (ME g d M_X5_lost [vR 23, vI 1] σ6 (qL (fun r30 σ31 => F r30 σ31)))))) ∧ (¬ (σ6 24 a1.toNatClampNeg) = a3 → (ME g d M_X5_lost [vR 23, vI 2] σ6 (qL (fun r33 σ34 => F r33 σ34))))))))) ∧ (r5 = 0 → F (-9223372036854775808) σ6))))))))))) : VM g (d + 1) M_X5_cell (qL F) 0 [(0, vR 23), (1, vI a1), (2, vI a2), (3, vI a3)] [] σ := by
  refine VE_aload_n 0 dX5_cell_0 (k := ?_)
  refine VE_iconst 0 dX5_cell_1 (k := ?_)
  refine VE_put dX5_cell_2 fl_X5_49 ?_
  refine VE_iload_n 1 dX5_cell_5 (k := ?_)
  refine VE_cSi [vI a1] dX5_cell_6 ml_X5_65 h (fun r1 σ2 h3 => ?_) (rok_D d)
  refine VE_if_eq 19 dX5_cell_9 (fun c4 => ?_) (fun c4 => ?_)
  · refine VE_ldc2 (-9223372036854775808) 695 dX5_cell_19 ⟨by decide +kernel, rfl⟩ ?_
    exact VM_lret dX5_cell_22 (h3.1 c4)
  · refine VE_iload_n 3 dX5_cell_12 (k := ?_)
    refine VE_cSi [vI a3] dX5_cell_13 ml_X5_69 (h3.2 c4) (fun r5 σ6 h7 => ?_) (rok_D d)
    refine VE_if_ne 23 dX5_cell_16 (fun c8 => ?_) (fun c8 => ?_)
    · refine VE_aload_n 0 dX5_cell_23 (k := ?_)
      refine VE_getR 24 dX5_cell_24 fl_X5_9 ?_
      refine VE_iload_n 1 dX5_cell_27 (k := ?_)
      refine VE_iald dX5_cell_28 (h7.1 c8).1 ?_
      refine VE_bipush (-9) dX5_cell_29 (k := ?_)
      refine VE_icmp_eq 50 dX5_cell_31 (fun c9 => ?_) (fun c9 => ?_)
      · refine VE_aload_n 0 dX5_cell_50 (k := ?_)
        refine VE_getR 24 dX5_cell_51 fl_X5_9 ?_
        refine VE_iload_n 1 dX5_cell_54 (k := ?_)
        refine VE_iald dX5_cell_55 (h7.1 c8).1 ?_
        refine VE_bipush (-9) dX5_cell_56 (k := ?_)
        refine VE_icmp_ne 67 dX5_cell_58 (fun c10 => ?_) (fun c10 => ?_)
        · refine VE_iload_n 2 dX5_cell_67 (k := ?_)
          refine VE_iconst 0 dX5_cell_68 (k := ?_)
          refine VE_aload_n 0 dX5_cell_69 (k := ?_)
          refine VE_getR 25 dX5_cell_70 fl_X5_13 ?_
          refine VE_iload_n 1 dX5_cell_73 (k := ?_)
          refine VE_iald dX5_cell_74 (h7.1 c8).1 ?_
          refine VE_iconst 1 dX5_cell_75 (k := ?_)
          refine VE_isub dX5_cell_76 ?_
          refine VE_cSi [vI a2, vI 0, vI ((σ6 25 a1.toNatClampNeg) - 1)] dX5_cell_77 ml_X5_55 (((h7.1 c8).2.1 c9).1 c10) (fun r11 σ12 h13 => ?_) (rok_D d)
          refine VE_if_ne 89 dX5_cell_80 (fun c14 => ?_) (fun c14 => ?_)
          · refine VE_aload_n 0 dX5_cell_89 (k := ?_)
            refine VE_getR 26 dX5_cell_90 fl_X5_16 ?_
            refine VE_bipush 60 dX5_cell_93 (k := ?_)
            refine VE_iload_n 1 dX5_cell_95 (k := ?_)
            refine VE_imul dX5_cell_96 ?_
            refine VE_iload_n 2 dX5_cell_97 (k := ?_)
            refine VE_iadd dX5_cell_98 ?_
            refine VE_iald dX5_cell_99 (h13.1 c14).1 ?_
            refine VE_i2l dX5_cell_100 ?_
            exact VM_lret dX5_cell_101 (h13.1 c14).2
          · refine VE_aload_n 0 dX5_cell_83 (k := ?_)
            refine VE_iconst 3 dX5_cell_84 (k := ?_)
            refine VE_cVl [vI 3] dX5_cell_85 ml_X5_178 (h13.2 c14) (fun r15 σ16 h17 => ?_) (rok_D d)
            exact VM_lret dX5_cell_88 h17
        · refine VE_aload_n 0 dX5_cell_61 (k := ?_)
          refine VE_iconst 1 dX5_cell_62 (k := ?_)
          refine VE_cVl [vI 1] dX5_cell_63 ml_X5_178 (((h7.1 c8).2.1 c9).2 c10) (fun r18 σ19 h20 => ?_) (rok_D d)
          exact VM_lret dX5_cell_66 h20
      · refine VE_aload_n 0 dX5_cell_34 (k := ?_)
        refine VE_getR 24 dX5_cell_35 fl_X5_9 ?_
        refine VE_iload_n 1 dX5_cell_38 (k := ?_)
        refine VE_iald dX5_cell_39 (h7.1 c8).1 ?_
        refine VE_iload_n 3 dX5_cell_40 (k := ?_)
        refine VE_icmp_eq 50 dX5_cell_41 (fun c21 => ?_) (fun c21 => ?_)
        · refine VE_aload_n 0 dX5_cell_50 (k := ?_)
          refine VE_getR 24 dX5_cell_51 fl_X5_9 ?_
          refine VE_iload_n 1 dX5_cell_54 (k := ?_)
          refine VE_iald dX5_cell_55 (h7.1 c8).1 ?_
          refine VE_bipush (-9) dX5_cell_56 (k := ?_)
          refine VE_icmp_ne 67 dX5_cell_58 (fun c22 => ?_) (fun c22 => ?_)
          · refine VE_iload_n 2 dX5_cell_67 (k := ?_)
            refine VE_iconst 0 dX5_cell_68 (k := ?_)
            refine VE_aload_n 0 dX5_cell_69 (k := ?_)
            refine VE_getR 25 dX5_cell_70 fl_X5_13 ?_
            refine VE_iload_n 1 dX5_cell_73 (k := ?_)
            refine VE_iald dX5_cell_74 (h7.1 c8).1 ?_
            refine VE_iconst 1 dX5_cell_75 (k := ?_)
            refine VE_isub dX5_cell_76 ?_
            refine VE_cSi [vI a2, vI 0, vI ((σ6 25 a1.toNatClampNeg) - 1)] dX5_cell_77 ml_X5_55 ((((h7.1 c8).2.2 c9).1 c21).1 c22) (fun r23 σ24 h25 => ?_) (rok_D d)
            refine VE_if_ne 89 dX5_cell_80 (fun c26 => ?_) (fun c26 => ?_)
            · refine VE_aload_n 0 dX5_cell_89 (k := ?_)
              refine VE_getR 26 dX5_cell_90 fl_X5_16 ?_
              refine VE_bipush 60 dX5_cell_93 (k := ?_)
              refine VE_iload_n 1 dX5_cell_95 (k := ?_)
              refine VE_imul dX5_cell_96 ?_
              refine VE_iload_n 2 dX5_cell_97 (k := ?_)
              refine VE_iadd dX5_cell_98 ?_
              refine VE_iald dX5_cell_99 (h25.1 c26).1 ?_
              refine VE_i2l dX5_cell_100 ?_
              exact VM_lret dX5_cell_101 (h25.1 c26).2
            · refine VE_aload_n 0 dX5_cell_83 (k := ?_)
              refine VE_iconst 3 dX5_cell_84 (k := ?_)
              refine VE_cVl [vI 3] dX5_cell_85 ml_X5_178 (h25.2 c26) (fun r27 σ28 h29 => ?_) (rok_D d)
              exact VM_lret dX5_cell_88 h29
          · refine VE_aload_n 0 dX5_cell_61 (k := ?_)
            refine VE_iconst 1 dX5_cell_62 (k := ?_)
            refine VE_cVl [vI 1] dX5_cell_63 ml_X5_178 ((((h7.1 c8).2.2 c9).1 c21).2 c22) (fun r30 σ31 h32 => ?_) (rok_D d)
            exact VM_lret dX5_cell_66 h32
        · refine VE_aload_n 0 dX5_cell_44 (k := ?_)
          refine VE_iconst 2 dX5_cell_45 (k := ?_)
          refine VE_cVl [vI 2] dX5_cell_46 ml_X5_178 (((h7.1 c8).2.2 c9).2 c21) (fun r33 σ34 h35 => ?_) (rok_D d)
          exact VM_lret dX5_cell_49 h35
    · refine VE_ldc2 (-9223372036854775808) 695 dX5_cell_19 ⟨by decide +kernel, rfl⟩ ?_
      exact VM_lret dX5_cell_22 (h7.2 c8)
theorem dX5_copy_0 : decode cX5_copy 0 = .ok (.aload_n 0, 1) := by decide +kernel
theorem dX5_copy_1 : decode cX5_copy 1 = .ok (.iconst 0, 1) := by decide +kernel
theorem dX5_copy_2 : decode cX5_copy 2 = .ok (.putfield 49, 3) := by decide +kernel
theorem dX5_copy_5 : decode cX5_copy 5 = .ok (.iload_n 1, 1) := by decide +kernel
theorem dX5_copy_6 : decode cX5_copy 6 = .ok (.invokestatic 65, 3) := by decide +kernel
theorem dX5_copy_9 : decode cX5_copy 9 = .ok (.ifCond .eq 10, 3) := by decide +kernel
theorem dX5_copy_12 : decode cX5_copy 12 = .ok (.iload_n 3, 1) := by decide +kernel
theorem dX5_copy_13 : decode cX5_copy 13 = .ok (.invokestatic 65, 3) := by decide +kernel
theorem dX5_copy_16 : decode cX5_copy 16 = .ok (.ifCond .ne 5, 3) := by decide +kernel
theorem dX5_copy_19 : decode cX5_copy 19 = .ok (.iconst (-1), 1) := by decide +kernel
theorem dX5_copy_20 : decode cX5_copy 20 = .ok (.ireturn, 1) := by decide +kernel
theorem dX5_copy_21 : decode cX5_copy 21 = .ok (.aload_n 0, 1) := by decide +kernel
theorem dX5_copy_22 : decode cX5_copy 22 = .ok (.getfield 9, 3) := by decide +kernel
theorem dX5_copy_25 : decode cX5_copy 25 = .ok (.iload_n 1, 1) := by decide +kernel
theorem dX5_copy_26 : decode cX5_copy 26 = .ok (.iaload, 1) := by decide +kernel
theorem dX5_copy_27 : decode cX5_copy 27 = .ok (.bipush (-9), 2) := by decide +kernel
theorem dX5_copy_29 : decode cX5_copy 29 = .ok (.if_icmp .eq 14, 3) := by decide +kernel
theorem dX5_copy_32 : decode cX5_copy 32 = .ok (.aload_n 0, 1) := by decide +kernel
theorem dX5_copy_33 : decode cX5_copy 33 = .ok (.getfield 9, 3) := by decide +kernel
theorem dX5_copy_36 : decode cX5_copy 36 = .ok (.iload_n 3, 1) := by decide +kernel
theorem dX5_copy_37 : decode cX5_copy 37 = .ok (.iaload, 1) := by decide +kernel
theorem dX5_copy_38 : decode cX5_copy 38 = .ok (.bipush (-9), 2) := by decide +kernel
theorem dX5_copy_40 : decode cX5_copy 40 = .ok (.if_icmp .ne 9, 3) := by decide +kernel
theorem dX5_copy_43 : decode cX5_copy 43 = .ok (.aload_n 0, 1) := by decide +kernel
theorem dX5_copy_44 : decode cX5_copy 44 = .ok (.iconst 1, 1) := by decide +kernel
theorem dX5_copy_45 : decode cX5_copy 45 = .ok (.invokevirtual 76, 3) := by decide +kernel
theorem dX5_copy_48 : decode cX5_copy 48 = .ok (.ireturn, 1) := by decide +kernel
theorem dX5_copy_49 : decode cX5_copy 49 = .ok (.aload_n 0, 1) := by decide +kernel
theorem dX5_copy_50 : decode cX5_copy 50 = .ok (.getfield 9, 3) := by decide +kernel
theorem dX5_copy_53 : decode cX5_copy 53 = .ok (.iload_n 1, 1) := by decide +kernel
theorem dX5_copy_54 : decode cX5_copy 54 = .ok (.iaload, 1) := by decide +kernel
theorem dX5_copy_55 : decode cX5_copy 55 = .ok (.aload_n 0, 1) := by decide +kernel
theorem dX5_copy_56 : decode cX5_copy 56 = .ok (.getfield 9, 3) := by decide +kernel
theorem dX5_copy_59 : decode cX5_copy 59 = .ok (.iload_n 3, 1) := by decide +kernel
theorem dX5_copy_60 : decode cX5_copy 60 = .ok (.iaload, 1) := by decide +kernel
theorem dX5_copy_61 : decode cX5_copy 61 = .ok (.if_icmp .eq 9, 3) := by decide +kernel
theorem dX5_copy_64 : decode cX5_copy 64 = .ok (.aload_n 0, 1) := by decide +kernel
theorem dX5_copy_65 : decode cX5_copy 65 = .ok (.iconst 2, 1) := by decide +kernel
theorem dX5_copy_66 : decode cX5_copy 66 = .ok (.invokevirtual 76, 3) := by decide +kernel
theorem dX5_copy_69 : decode cX5_copy 69 = .ok (.ireturn, 1) := by decide +kernel
theorem dX5_copy_70 : decode cX5_copy 70 = .ok (.iload_n 2, 1) := by decide +kernel
theorem dX5_copy_71 : decode cX5_copy 71 = .ok (.ifCond .lt 38, 3) := by decide +kernel
theorem dX5_copy_74 : decode cX5_copy 74 = .ok (.iload 4, 2) := by decide +kernel
theorem dX5_copy_76 : decode cX5_copy 76 = .ok (.ifCond .lt 33, 3) := by decide +kernel
theorem dX5_copy_79 : decode cX5_copy 79 = .ok (.iload 5, 2) := by decide +kernel
theorem dX5_copy_81 : decode cX5_copy 81 = .ok (.ifCond .lt 28, 3) := by decide +kernel
theorem dX5_copy_84 : decode cX5_copy 84 = .ok (.iload_n 2, 1) := by decide +kernel
theorem dX5_copy_85 : decode cX5_copy 85 = .ok (.aload_n 0, 1) := by decide +kernel
theorem dX5_copy_86 : decode cX5_copy 86 = .ok (.getfield 13, 3) := by decide +kernel
theorem dX5_copy_89 : decode cX5_copy 89 = .ok (.iload_n 1, 1) := by decide +kernel
theorem dX5_copy_90 : decode cX5_copy 90 = .ok (.iaload, 1) := by decide +kernel
theorem dX5_copy_91 : decode cX5_copy 91 = .ok (.if_icmp .gt 18, 3) := by decide +kernel
theorem dX5_copy_94 : decode cX5_copy 94 = .ok (.iload 4, 2) := by decide +kernel
theorem dX5_copy_96 : decode cX5_copy 96 = .ok (.aload_n 0, 1) := by decide +kernel
theorem dX5_copy_97 : decode cX5_copy 97 = .ok (.getfield 13, 3) := by decide +kernel
theorem dX5_copy_100 : decode cX5_copy 100 = .ok (.iload_n 3, 1) := by decide +kernel
theorem dX5_copy_101 : decode cX5_copy 101 = .ok (.iaload, 1) := by decide +kernel
theorem dX5_copy_102 : decode cX5_copy 102 = .ok (.if_icmp .gt 7, 3) := by decide +kernel
theorem dX5_copy_105 : decode cX5_copy 105 = .ok (.iconst 1, 1) := by decide +kernel
theorem dX5_copy_106 : decode cX5_copy 106 = .ok (.goto 4, 3) := by decide +kernel
theorem dX5_copy_109 : decode cX5_copy 109 = .ok (.iconst 0, 1) := by decide +kernel
theorem dX5_copy_110 : decode cX5_copy 110 = .ok (.istore 6, 2) := by decide +kernel
theorem dX5_copy_112 : decode cX5_copy 112 = .ok (.iload 6, 2) := by decide +kernel
theorem dX5_copy_114 : decode cX5_copy 114 = .ok (.ifCond .eq 30, 3) := by decide +kernel
theorem dX5_copy_117 : decode cX5_copy 117 = .ok (.iload 5, 2) := by decide +kernel
theorem dX5_copy_119 : decode cX5_copy 119 = .ok (.aload_n 0, 1) := by decide +kernel
theorem dX5_copy_120 : decode cX5_copy 120 = .ok (.getfield 13, 3) := by decide +kernel
theorem dX5_copy_123 : decode cX5_copy 123 = .ok (.iload_n 1, 1) := by decide +kernel
theorem dX5_copy_124 : decode cX5_copy 124 = .ok (.iaload, 1) := by decide +kernel
theorem dX5_copy_125 : decode cX5_copy 125 = .ok (.iload_n 2, 1) := by decide +kernel
theorem dX5_copy_126 : decode cX5_copy 126 = .ok (.isub, 1) := by decide +kernel
theorem dX5_copy_127 : decode cX5_copy 127 = .ok (.if_icmp .gt 17, 3) := by decide +kernel
theorem dX5_copy_130 : decode cX5_copy 130 = .ok (.iload 5, 2) := by decide +kernel
theorem dX5_copy_132 : decode cX5_copy 132 = .ok (.aload_n 0, 1) := by decide +kernel
theorem dX5_copy_133 : decode cX5_copy 133 = .ok (.getfield 13, 3) := by decide +kernel
theorem dX5_copy_136 : decode cX5_copy 136 = .ok (.iload_n 3, 1) := by decide +kernel
theorem dX5_copy_137 : decode cX5_copy 137 = .ok (.iaload, 1) := by decide +kernel
theorem dX5_copy_138 : decode cX5_copy 138 = .ok (.iload 4, 2) := by decide +kernel
theorem dX5_copy_140 : decode cX5_copy 140 = .ok (.isub, 1) := by decide +kernel
theorem dX5_copy_141 : decode cX5_copy 141 = .ok (.if_icmp .le 9, 3) := by decide +kernel
theorem dX5_copy_144 : decode cX5_copy 144 = .ok (.aload_n 0, 1) := by decide +kernel
theorem dX5_copy_145 : decode cX5_copy 145 = .ok (.iconst 3, 1) := by decide +kernel
theorem dX5_copy_146 : decode cX5_copy 146 = .ok (.invokevirtual 76, 3) := by decide +kernel
theorem dX5_copy_149 : decode cX5_copy 149 = .ok (.ireturn, 1) := by decide +kernel
theorem dX5_copy_150 : decode cX5_copy 150 = .ok (.iload_n 2, 1) := by decide +kernel
theorem dX5_copy_151 : decode cX5_copy 151 = .ok (.iload 4, 2) := by decide +kernel
theorem dX5_copy_153 : decode cX5_copy 153 = .ok (.if_icmp .ge 7, 3) := by decide +kernel
theorem dX5_copy_156 : decode cX5_copy 156 = .ok (.iconst 1, 1) := by decide +kernel
theorem dX5_copy_157 : decode cX5_copy 157 = .ok (.goto 4, 3) := by decide +kernel
theorem dX5_copy_160 : decode cX5_copy 160 = .ok (.iconst 0, 1) := by decide +kernel
theorem dX5_copy_161 : decode cX5_copy 161 = .ok (.istore 7, 2) := by decide +kernel
theorem dX5_copy_163 : decode cX5_copy 163 = .ok (.iconst 0, 1) := by decide +kernel
theorem dX5_copy_164 : decode cX5_copy 164 = .ok (.istore 8, 2) := by decide +kernel
theorem dX5_copy_166 : decode cX5_copy 166 = .ok (.iload 8, 2) := by decide +kernel
theorem dX5_copy_168 : decode cX5_copy 168 = .ok (.iload 5, 2) := by decide +kernel
theorem dX5_copy_170 : decode cX5_copy 170 = .ok (.if_icmp .ge 57, 3) := by decide +kernel
theorem dX5_copy_173 : decode cX5_copy 173 = .ok (.iload 7, 2) := by decide +kernel
theorem dX5_copy_175 : decode cX5_copy 175 = .ok (.ifCond .eq 13, 3) := by decide +kernel
theorem dX5_copy_178 : decode cX5_copy 178 = .ok (.iload 5, 2) := by decide +kernel
theorem dX5_copy_180 : decode cX5_copy 180 = .ok (.iconst 1, 1) := by decide +kernel
theorem dX5_copy_181 : decode cX5_copy 181 = .ok (.isub, 1) := by decide +kernel
theorem dX5_copy_182 : decode cX5_copy 182 = .ok (.iload 8, 2) := by decide +kernel
theorem dX5_copy_184 : decode cX5_copy 184 = .ok (.isub, 1) := by decide +kernel
theorem dX5_copy_185 : decode cX5_copy 185 = .ok (.goto 5, 3) := by decide +kernel
theorem dX5_copy_188 : decode cX5_copy 188 = .ok (.iload 8, 2) := by decide +kernel
theorem dX5_copy_190 : decode cX5_copy 190 = .ok (.istore 9, 2) := by decide +kernel
theorem dX5_copy_192 : decode cX5_copy 192 = .ok (.aload_n 0, 1) := by decide +kernel
theorem dX5_copy_193 : decode cX5_copy 193 = .ok (.getfield 16, 3) := by decide +kernel
theorem dX5_copy_196 : decode cX5_copy 196 = .ok (.bipush 60, 2) := by decide +kernel
theorem dX5_copy_198 : decode cX5_copy 198 = .ok (.iload_n 3, 1) := by decide +kernel
theorem dX5_copy_199 : decode cX5_copy 199 = .ok (.imul, 1) := by decide +kernel
theorem dX5_copy_200 : decode cX5_copy 200 = .ok (.iload 4, 2) := by decide +kernel
theorem dX5_copy_202 : decode cX5_copy 202 = .ok (.iadd, 1) := by decide +kernel
theorem dX5_copy_203 : decode cX5_copy 203 = .ok (.iload 9, 2) := by decide +kernel
theorem dX5_copy_205 : decode cX5_copy 205 = .ok (.iadd, 1) := by decide +kernel
theorem dX5_copy_206 : decode cX5_copy 206 = .ok (.aload_n 0, 1) := by decide +kernel
theorem dX5_copy_207 : decode cX5_copy 207 = .ok (.getfield 16, 3) := by decide +kernel
theorem dX5_copy_210 : decode cX5_copy 210 = .ok (.bipush 60, 2) := by decide +kernel
theorem dX5_copy_212 : decode cX5_copy 212 = .ok (.iload_n 1, 1) := by decide +kernel
theorem dX5_copy_213 : decode cX5_copy 213 = .ok (.imul, 1) := by decide +kernel
theorem dX5_copy_214 : decode cX5_copy 214 = .ok (.iload_n 2, 1) := by decide +kernel
theorem dX5_copy_215 : decode cX5_copy 215 = .ok (.iadd, 1) := by decide +kernel
theorem dX5_copy_216 : decode cX5_copy 216 = .ok (.iload 9, 2) := by decide +kernel
theorem dX5_copy_218 : decode cX5_copy 218 = .ok (.iadd, 1) := by decide +kernel
theorem dX5_copy_219 : decode cX5_copy 219 = .ok (.iaload, 1) := by decide +kernel
theorem dX5_copy_220 : decode cX5_copy 220 = .ok (.iastore, 1) := by decide +kernel
theorem dX5_copy_221 : decode cX5_copy 221 = .ok (.iinc 8 1, 3) := by decide +kernel
theorem dX5_copy_224 : decode cX5_copy 224 = .ok (.goto (-58), 3) := by decide +kernel
theorem dX5_copy_227 : decode cX5_copy 227 = .ok (.iload 5, 2) := by decide +kernel
theorem dX5_copy_229 : decode cX5_copy 229 = .ok (.ireturn, 1) := by decide +kernel
set_option maxRecDepth 20000 in
theorem S_X5_copy_0 {g : GG} {d : Nat} {F : Int32 → St → Prop} (a1 : Int32) (a2 : Int32) (a3 : Int32) (a4 : Int32) (a5 : Int32) (σ : St) (h : (ME g d M_X5_isSheet [vI a1] (sU σ 23 0 0) (qI (fun r1 σ2 => ((r1 = 0 → F (-1) σ2) ∧ (¬ r1 = 0 → (ME g d M_X5_isSheet [vI a3] σ2 (qI (fun r5 σ6 => ((¬ r5 = 0 → (vp_in a1 4 ∧ (((σ6 24 a1.toNatClampNeg) = (-9) → (ME g d M_X5_fails [vR 23, vI 1] σ6 (qI (fun r10 σ11 => F r10 σ11)))) ∧ (¬ (σ6 24 a1.toNatClampNeg) = (-9) → (vp_in a3 4 ∧ ((¬ (σ6 24 a3.toNatClampNeg) = (-9) → (((σ6 24 a1.toNatClampNeg) = (σ6 24 a3.toNatClampNeg) → ((a2 < 0 → (ME g d M_X5_fails [vR 23, vI 3] σ6 (qI (fun r17 σ18 => F r17 σ18)))) ∧ (¬ a2 < 0 → ((a4 < 0 → (ME g d M_X5_fails [vR 23, vI 3] σ6 (qI (fun r22 σ23 => F r22 σ23)))) ∧ (¬ a4 < 0 → ((a5 < 0 → (ME g d M_X5_fails [vR 23, vI 3] σ6 (qI (fun r27 σ28 => F r27 σ28)))) ∧ (¬ a5 < 0 → (((σ6 25 a1.toNatClampNeg) < a2 → (ME g d M_X5_fails [vR 23, vI 3] σ6 (qI (fun r32 σ33 => F r32 σ33)))) ∧ (¬ (σ6 25 a1.toNatClampNeg) < a2 → (((σ6 25 a3.toNatClampNeg) < a4 → (ME g d M_X5_fails [vR 23, vI 3] σ6 (qI (fun r37 σ38 => F r37 σ38)))) ∧ (¬ (σ6 25 a3.toNatClampNeg) < a4 → ((((σ6 25 a1.toNatClampNeg) - a2) < a5 → (ME g d M_X5_fails [vR 23, vI 3] σ6 (qI (fun r42 σ43 => F r42 σ43)))) ∧ (¬ ((σ6 25 a1.toNatClampNeg) - a2) < a5 → ((a5 ≤ ((σ6 25 a3.toNatClampNeg) - a4) → ((a4 ≤ a2 → VM g (d + 1) M_X5_copy (qI F) 166 [(0, vR 23), (1, vI a1), (2, vI a2), (3, vI a3), (4, vI a4), (5, vI a5), (6, vI 1), (7, vI 0), (8, vI 0)] [] σ6) ∧ (¬ a4 ≤ a2 → VM g (d + 1) M_X5_copy (qI F) 166 [(0, vR 23), (1, vI a1), (2, vI a2), (3, vI a3), (4, vI a4), (5, vI a5), (6, vI 1), (7, vI 1), (8, vI 0)] [] σ6))) ∧ (¬ a5 ≤ ((σ6 25 a3.toNatClampNeg) - a4) → (ME g d M_X5_fails [vR 23, vI 3] σ6 (qI (fun r47 σ48 => F r47 σ48)))))))))))))))))) ∧ (¬ (σ6 24 a1.toNatClampNeg) = (σ6 24 a3.toNatClampNeg) → (ME g d M_X5_fails [vR 23, vI 2] σ6 (qI (fun r50 σ51 => F r50 σ51)))))) ∧ ((σ6 24 a3.toNatClampNeg) = (-9) → (ME g d M_X5_fails [vR 23, vI 1] σ6 (qI (fun r53 σ54 => F r53 σ54)))))))))) ∧ (r5 = 0 → F (-1) σ6))))))))))) : VM g (d + 1) M_X5_copy (qI F) 0 [(0, vR 23), (1, vI a1), (2, vI a2), (3, vI a3), (4, vI a4), (5, vI a5)] [] σ := by
  refine VE_aload_n 0 dX5_copy_0 (k := ?_)
  refine VE_iconst 0 dX5_copy_1 (k := ?_)
  refine VE_put dX5_copy_2 fl_X5_49 ?_
  refine VE_iload_n 1 dX5_copy_5 (k := ?_)
  refine VE_cSi [vI a1] dX5_copy_6 ml_X5_65 h (fun r1 σ2 h3 => ?_) (rok_D d)
  refine VE_if_eq 19 dX5_copy_9 (fun c4 => ?_) (fun c4 => ?_)
  · refine VE_iconst (-1) dX5_copy_19 (k := ?_)
    exact VM_iret dX5_copy_20 (h3.1 c4)
  · refine VE_iload_n 3 dX5_copy_12 (k := ?_)
    refine VE_cSi [vI a3] dX5_copy_13 ml_X5_65 (h3.2 c4) (fun r5 σ6 h7 => ?_) (rok_D d)
    refine VE_if_ne 21 dX5_copy_16 (fun c8 => ?_) (fun c8 => ?_)
    · refine VE_aload_n 0 dX5_copy_21 (k := ?_)
      refine VE_getR 24 dX5_copy_22 fl_X5_9 ?_
      refine VE_iload_n 1 dX5_copy_25 (k := ?_)
      refine VE_iald dX5_copy_26 (h7.1 c8).1 ?_
      refine VE_bipush (-9) dX5_copy_27 (k := ?_)
      refine VE_icmp_eq 43 dX5_copy_29 (fun c9 => ?_) (fun c9 => ?_)
      · refine VE_aload_n 0 dX5_copy_43 (k := ?_)
        refine VE_iconst 1 dX5_copy_44 (k := ?_)
        refine VE_cVi [vI 1] dX5_copy_45 ml_X5_76 ((h7.1 c8).2.1 c9) (fun r10 σ11 h12 => ?_) (rok_D d)
        exact VM_iret dX5_copy_48 h12
      · refine VE_aload_n 0 dX5_copy_32 (k := ?_)
        refine VE_getR 24 dX5_copy_33 fl_X5_9 ?_
        refine VE_iload_n 3 dX5_copy_36 (k := ?_)
        refine VE_iald dX5_copy_37 ((h7.1 c8).2.2 c9).1 ?_
        refine VE_bipush (-9) dX5_copy_38 (k := ?_)
        refine VE_icmp_ne 49 dX5_copy_40 (fun c13 => ?_) (fun c13 => ?_)
        · refine VE_aload_n 0 dX5_copy_49 (k := ?_)
          refine VE_getR 24 dX5_copy_50 fl_X5_9 ?_
          refine VE_iload_n 1 dX5_copy_53 (k := ?_)
          refine VE_iald dX5_copy_54 (h7.1 c8).1 ?_
          refine VE_aload_n 0 dX5_copy_55 (k := ?_)
          refine VE_getR 24 dX5_copy_56 fl_X5_9 ?_
          refine VE_iload_n 3 dX5_copy_59 (k := ?_)
          refine VE_iald dX5_copy_60 ((h7.1 c8).2.2 c9).1 ?_
          refine VE_icmp_eq 70 dX5_copy_61 (fun c14 => ?_) (fun c14 => ?_)
          · refine VE_iload_n 2 dX5_copy_70 (k := ?_)
            refine VE_if_lt 109 dX5_copy_71 (fun c15 => ?_) (fun c15 => ?_)
            · refine VE_iconst 0 dX5_copy_109 (k := ?_)
              refine VE_istore (ls' := [(6, vI 0), (0, vR 23), (1, vI a1), (2, vI a2), (3, vI a3), (4, vI a4), (5, vI a5)]) dX5_copy_110 ?_
              refine VE_iload 0 dX5_copy_112 (k := ?_)
              refine VE_if_eq 144 dX5_copy_114 (fun _ => ?_) (fun c16 => absurd (by decide) c16)
              refine VE_aload_n 1 dX5_copy_144 (k := ?_)
              refine VE_iconst 3 dX5_copy_145 (k := ?_)
              refine VE_cVi [vI 3] dX5_copy_146 ml_X5_76 (((((h7.1 c8).2.2 c9).2.1 c13).1 c14).1 c15) (fun r17 σ18 h19 => ?_) (rok_D d)
              exact VM_iret dX5_copy_149 h19
            · refine VE_iload 4 dX5_copy_74 (k := ?_)
              refine VE_if_lt 109 dX5_copy_76 (fun c20 => ?_) (fun c20 => ?_)
              · refine VE_iconst 0 dX5_copy_109 (k := ?_)
                refine VE_istore (ls' := [(6, vI 0), (0, vR 23), (1, vI a1), (2, vI a2), (3, vI a3), (4, vI a4), (5, vI a5)]) dX5_copy_110 ?_
                refine VE_iload 0 dX5_copy_112 (k := ?_)
                refine VE_if_eq 144 dX5_copy_114 (fun _ => ?_) (fun c21 => absurd (by decide) c21)
                refine VE_aload_n 1 dX5_copy_144 (k := ?_)
                refine VE_iconst 3 dX5_copy_145 (k := ?_)
                refine VE_cVi [vI 3] dX5_copy_146 ml_X5_76 ((((((h7.1 c8).2.2 c9).2.1 c13).1 c14).2 c15).1 c20) (fun r22 σ23 h24 => ?_) (rok_D d)
                exact VM_iret dX5_copy_149 h24
              · refine VE_iload 5 dX5_copy_79 (k := ?_)
                refine VE_if_lt 109 dX5_copy_81 (fun c25 => ?_) (fun c25 => ?_)
                · refine VE_iconst 0 dX5_copy_109 (k := ?_)
                  refine VE_istore (ls' := [(6, vI 0), (0, vR 23), (1, vI a1), (2, vI a2), (3, vI a3), (4, vI a4), (5, vI a5)]) dX5_copy_110 ?_
                  refine VE_iload 0 dX5_copy_112 (k := ?_)
                  refine VE_if_eq 144 dX5_copy_114 (fun _ => ?_) (fun c26 => absurd (by decide) c26)
                  refine VE_aload_n 1 dX5_copy_144 (k := ?_)
                  refine VE_iconst 3 dX5_copy_145 (k := ?_)
                  refine VE_cVi [vI 3] dX5_copy_146 ml_X5_76 (((((((h7.1 c8).2.2 c9).2.1 c13).1 c14).2 c15).2 c20).1 c25) (fun r27 σ28 h29 => ?_) (rok_D d)
                  exact VM_iret dX5_copy_149 h29
                · refine VE_iload_n 2 dX5_copy_84 (k := ?_)
                  refine VE_aload_n 0 dX5_copy_85 (k := ?_)
                  refine VE_getR 25 dX5_copy_86 fl_X5_13 ?_
                  refine VE_iload_n 1 dX5_copy_89 (k := ?_)
                  refine VE_iald dX5_copy_90 (h7.1 c8).1 ?_
                  refine VE_icmp_gt 109 dX5_copy_91 (fun c30 => ?_) (fun c30 => ?_)
                  · refine VE_iconst 0 dX5_copy_109 (k := ?_)
                    refine VE_istore (ls' := [(6, vI 0), (0, vR 23), (1, vI a1), (2, vI a2), (3, vI a3), (4, vI a4), (5, vI a5)]) dX5_copy_110 ?_
                    refine VE_iload 0 dX5_copy_112 (k := ?_)
                    refine VE_if_eq 144 dX5_copy_114 (fun _ => ?_) (fun c31 => absurd (by decide) c31)
                    refine VE_aload_n 1 dX5_copy_144 (k := ?_)
                    refine VE_iconst 3 dX5_copy_145 (k := ?_)
                    refine VE_cVi [vI 3] dX5_copy_146 ml_X5_76 ((((((((h7.1 c8).2.2 c9).2.1 c13).1 c14).2 c15).2 c20).2 c25).1 c30) (fun r32 σ33 h34 => ?_) (rok_D d)
                    exact VM_iret dX5_copy_149 h34
                  · refine VE_iload 4 dX5_copy_94 (k := ?_)
                    refine VE_aload_n 0 dX5_copy_96 (k := ?_)
                    refine VE_getR 25 dX5_copy_97 fl_X5_13 ?_
                    refine VE_iload_n 3 dX5_copy_100 (k := ?_)
                    refine VE_iald dX5_copy_101 ((h7.1 c8).2.2 c9).1 ?_
                    refine VE_icmp_gt 109 dX5_copy_102 (fun c35 => ?_) (fun c35 => ?_)
                    · refine VE_iconst 0 dX5_copy_109 (k := ?_)
                      refine VE_istore (ls' := [(6, vI 0), (0, vR 23), (1, vI a1), (2, vI a2), (3, vI a3), (4, vI a4), (5, vI a5)]) dX5_copy_110 ?_
                      refine VE_iload 0 dX5_copy_112 (k := ?_)
                      refine VE_if_eq 144 dX5_copy_114 (fun _ => ?_) (fun c36 => absurd (by decide) c36)
                      refine VE_aload_n 1 dX5_copy_144 (k := ?_)
                      refine VE_iconst 3 dX5_copy_145 (k := ?_)
                      refine VE_cVi [vI 3] dX5_copy_146 ml_X5_76 (((((((((h7.1 c8).2.2 c9).2.1 c13).1 c14).2 c15).2 c20).2 c25).2 c30).1 c35) (fun r37 σ38 h39 => ?_) (rok_D d)
                      exact VM_iret dX5_copy_149 h39
                    · refine VE_iconst 1 dX5_copy_105 (k := ?_)
                      refine VE_goto 110 dX5_copy_106 ?_
                      refine VE_istore (ls' := [(6, vI 1), (0, vR 23), (1, vI a1), (2, vI a2), (3, vI a3), (4, vI a4), (5, vI a5)]) dX5_copy_110 ?_
                      refine VE_iload 0 dX5_copy_112 (k := ?_)
                      refine VE_if_eq 144 dX5_copy_114 (fun c40 => absurd c40 (by decide)) (fun _ => ?_)
                      refine VE_iload 6 dX5_copy_117 (k := ?_)
                      refine VE_aload_n 1 dX5_copy_119 (k := ?_)
                      refine VE_getR 25 dX5_copy_120 fl_X5_13 ?_
                      refine VE_iload_n 2 dX5_copy_123 (k := ?_)
                      refine VE_iald dX5_copy_124 (h7.1 c8).1 ?_
                      refine VE_iload_n 3 dX5_copy_125 (k := ?_)
                      refine VE_isub dX5_copy_126 ?_
                      refine VE_icmp_gt 144 dX5_copy_127 (fun c41 => ?_) (fun c41 => ?_)
                      · refine VE_aload_n 1 dX5_copy_144 (k := ?_)
                        refine VE_iconst 3 dX5_copy_145 (k := ?_)
                        refine VE_cVi [vI 3] dX5_copy_146 ml_X5_76 ((((((((((h7.1 c8).2.2 c9).2.1 c13).1 c14).2 c15).2 c20).2 c25).2 c30).2 c35).1 c41) (fun r42 σ43 h44 => ?_) (rok_D d)
                        exact VM_iret dX5_copy_149 h44
                      · refine VE_iload 6 dX5_copy_130 (k := ?_)
                        refine VE_aload_n 1 dX5_copy_132 (k := ?_)
                        refine VE_getR 25 dX5_copy_133 fl_X5_13 ?_
                        refine VE_iload_n 4 dX5_copy_136 (k := ?_)
                        refine VE_iald dX5_copy_137 ((h7.1 c8).2.2 c9).1 ?_
                        refine VE_iload 5 dX5_copy_138 (k := ?_)
                        refine VE_isub dX5_copy_140 ?_
                        refine VE_icmp_le 150 dX5_copy_141 (fun c45 => ?_) (fun c45 => ?_)
                        · refine VE_iload_n 3 dX5_copy_150 (k := ?_)
                          refine VE_iload 5 dX5_copy_151 (k := ?_)
                          refine VE_icmp_ge 160 dX5_copy_153 (fun c46 => ?_) (fun c46 => ?_)
                          · refine VE_iconst 0 dX5_copy_160 (k := ?_)
                            refine VE_istore (ls' := [(7, vI 0), (6, vI 1), (0, vR 23), (1, vI a1), (2, vI a2), (3, vI a3), (4, vI a4), (5, vI a5)]) dX5_copy_161 ?_
                            refine VE_iconst 0 dX5_copy_163 (k := ?_)
                            refine VE_istore (ls' := [(8, vI 0), (7, vI 0), (6, vI 1), (0, vR 23), (1, vI a1), (2, vI a2), (3, vI a3), (4, vI a4), (5, vI a5)]) dX5_copy_164 ?_
                            exact VE_sub [3, 4, 5, 6, 7, 8, 2, 1, 0] rfl ((((((((((((h7.1 c8).2.2 c9).2.1 c13).1 c14).2 c15).2 c20).2 c25).2 c30).2 c35).2 c41).1 c45).1 c46)
                          · refine VE_iconst 1 dX5_copy_156 (k := ?_)
                            refine VE_goto 161 dX5_copy_157 ?_
                            refine VE_istore (ls' := [(7, vI 1), (6, vI 1), (0, vR 23), (1, vI a1), (2, vI a2), (3, vI a3), (4, vI a4), (5, vI a5)]) dX5_copy_161 ?_
                            refine VE_iconst 0 dX5_copy_163 (k := ?_)
                            refine VE_istore (ls' := [(8, vI 0), (7, vI 1), (6, vI 1), (0, vR 23), (1, vI a1), (2, vI a2), (3, vI a3), (4, vI a4), (5, vI a5)]) dX5_copy_164 ?_
                            exact VE_sub [3, 4, 5, 6, 7, 8, 2, 1, 0] rfl ((((((((((((h7.1 c8).2.2 c9).2.1 c13).1 c14).2 c15).2 c20).2 c25).2 c30).2 c35).2 c41).1 c45).2 c46)
                        · refine VE_aload_n 1 dX5_copy_144 (k := ?_)
                          refine VE_iconst 3 dX5_copy_145 (k := ?_)
                          refine VE_cVi [vI 3] dX5_copy_146 ml_X5_76 (((((((((((h7.1 c8).2.2 c9).2.1 c13).1 c14).2 c15).2 c20).2 c25).2 c30).2 c35).2 c41).2 c45) (fun r47 σ48 h49 => ?_) (rok_D d)
                          exact VM_iret dX5_copy_149 h49
          · refine VE_aload_n 0 dX5_copy_64 (k := ?_)
            refine VE_iconst 2 dX5_copy_65 (k := ?_)
            refine VE_cVi [vI 2] dX5_copy_66 ml_X5_76 ((((h7.1 c8).2.2 c9).2.1 c13).2 c14) (fun r50 σ51 h52 => ?_) (rok_D d)
            exact VM_iret dX5_copy_69 h52
        · refine VE_aload_n 0 dX5_copy_43 (k := ?_)
          refine VE_iconst 1 dX5_copy_44 (k := ?_)
          refine VE_cVi [vI 1] dX5_copy_45 ml_X5_76 (((h7.1 c8).2.2 c9).2.2 c13) (fun r53 σ54 h55 => ?_) (rok_D d)
          exact VM_iret dX5_copy_48 h55
    · refine VE_iconst (-1) dX5_copy_19 (k := ?_)
      exact VM_iret dX5_copy_20 (h7.2 c8)
set_option maxRecDepth 20000 in
theorem S_X5_copy_166 {g : GG} {d : Nat} {F : Int32 → St → Prop} (x1 : Int32) (x2 : Int32) (x3 : Int32) (x4 : Int32) (x5 : Int32) (x6 : Int32) (x7 : Int32) (x8 : Int32) (σ : St) (h : ((x5 ≤ x8 → F x5 σ) ∧ (¬ x5 ≤ x8 → ((x7 = 0 → (vp_in (((60 * x1) + x2) + x8) 240 ∧ (vp_in (((60 * x3) + x4) + x8) 240 ∧ VM g (d + 1) M_X5_copy (qI F) 166 [(0, vR 23), (1, vI x1), (2, vI x2), (3, vI x3), (4, vI x4), (5, vI x5), (6, vI x6), (7, vI x7), (8, vI (x8 + 1))] [] (sU σ 26 ((((60 * x3) + x4) + x8).toNatClampNeg) (σ 26 ((((60 * x1) + x2) + x8).toNatClampNeg)))))) ∧ (¬ x7 = 0 → (vp_in (((60 * x1) + x2) + ((x5 - 1) - x8)) 240 ∧ (vp_in (((60 * x3) + x4) + ((x5 - 1) - x8)) 240 ∧ VM g (d + 1) M_X5_copy (qI F) 166 [(0, vR 23), (1, vI x1), (2, vI x2), (3, vI x3), (4, vI x4), (5, vI x5), (6, vI x6), (7, vI x7), (8, vI (x8 + 1))] [] (sU σ 26 ((((60 * x3) + x4) + ((x5 - 1) - x8)).toNatClampNeg) (σ 26 ((((60 * x1) + x2) + ((x5 - 1) - x8)).toNatClampNeg)))))))))) : VM g (d + 1) M_X5_copy (qI F) 166 [(0, vR 23), (1, vI x1), (2, vI x2), (3, vI x3), (4, vI x4), (5, vI x5), (6, vI x6), (7, vI x7), (8, vI x8)] [] σ := by
  refine VE_iload 8 dX5_copy_166 (k := ?_)
  refine VE_iload 5 dX5_copy_168 (k := ?_)
  refine VE_icmp_ge 227 dX5_copy_170 (fun c1 => ?_) (fun c1 => ?_)
  · refine VE_iload 5 dX5_copy_227 (k := ?_)
    exact VM_iret dX5_copy_229 (h.1 c1)
  · refine VE_iload 7 dX5_copy_173 (k := ?_)
    refine VE_if_eq 188 dX5_copy_175 (fun c2 => ?_) (fun c2 => ?_)
    · refine VE_iload 8 dX5_copy_188 (k := ?_)
      refine VE_istore (ls' := [(9, vI x8), (0, vR 23), (1, vI x1), (2, vI x2), (3, vI x3), (4, vI x4), (5, vI x5), (6, vI x6), (7, vI x7), (8, vI x8)]) dX5_copy_190 ?_
      refine VE_aload_n 1 dX5_copy_192 (k := ?_)
      refine VE_getR 26 dX5_copy_193 fl_X5_16 ?_
      refine VE_bipush 60 dX5_copy_196 (k := ?_)
      refine VE_iload_n 4 dX5_copy_198 (k := ?_)
      refine VE_imul dX5_copy_199 ?_
      refine VE_iload 5 dX5_copy_200 (k := ?_)
      refine VE_iadd dX5_copy_202 ?_
      refine VE_iload 0 dX5_copy_203 (k := ?_)
      refine VE_iadd dX5_copy_205 ?_
      refine VE_aload_n 1 dX5_copy_206 (k := ?_)
      refine VE_getR 26 dX5_copy_207 fl_X5_16 ?_
      refine VE_bipush 60 dX5_copy_210 (k := ?_)
      refine VE_iload_n 2 dX5_copy_212 (k := ?_)
      refine VE_imul dX5_copy_213 ?_
      refine VE_iload_n 3 dX5_copy_214 (k := ?_)
      refine VE_iadd dX5_copy_215 ?_
      refine VE_iload 0 dX5_copy_216 (k := ?_)
      refine VE_iadd dX5_copy_218 ?_
      refine VE_iald dX5_copy_219 ((h.2 c1).1 c2).1 ?_
      refine VE_iast dX5_copy_220 ((h.2 c1).1 c2).2.1 ?_
      refine VE_iinc 9 (x8 + 1) (ls' := [(8, vI (x8 + 1)), (9, vI x8), (0, vR 23), (1, vI x1), (2, vI x2), (3, vI x3), (4, vI x4), (5, vI x5), (6, vI x6), (7, vI x7)]) dX5_copy_221 ?_
      refine VE_goto 166 dX5_copy_224 ?_
      exact VE_sub [2, 3, 4, 5, 6, 7, 8, 9, 0] rfl ((h.2 c1).1 c2).2.2
    · refine VE_iload 5 dX5_copy_178 (k := ?_)
      refine VE_iconst 1 dX5_copy_180 (k := ?_)
      refine VE_isub dX5_copy_181 ?_
      refine VE_iload 8 dX5_copy_182 (k := ?_)
      refine VE_isub dX5_copy_184 ?_
      refine VE_goto 190 dX5_copy_185 ?_
      refine VE_istore (ls' := [(9, vI ((x5 - 1) - x8)), (0, vR 23), (1, vI x1), (2, vI x2), (3, vI x3), (4, vI x4), (5, vI x5), (6, vI x6), (7, vI x7), (8, vI x8)]) dX5_copy_190 ?_
      refine VE_aload_n 1 dX5_copy_192 (k := ?_)
      refine VE_getR 26 dX5_copy_193 fl_X5_16 ?_
      refine VE_bipush 60 dX5_copy_196 (k := ?_)
      refine VE_iload_n 4 dX5_copy_198 (k := ?_)
      refine VE_imul dX5_copy_199 ?_
      refine VE_iload 5 dX5_copy_200 (k := ?_)
      refine VE_iadd dX5_copy_202 ?_
      refine VE_iload 0 dX5_copy_203 (k := ?_)
      refine VE_iadd dX5_copy_205 ?_
      refine VE_aload_n 1 dX5_copy_206 (k := ?_)
      refine VE_getR 26 dX5_copy_207 fl_X5_16 ?_
      refine VE_bipush 60 dX5_copy_210 (k := ?_)
      refine VE_iload_n 2 dX5_copy_212 (k := ?_)
      refine VE_imul dX5_copy_213 ?_
      refine VE_iload_n 3 dX5_copy_214 (k := ?_)
      refine VE_iadd dX5_copy_215 ?_
      refine VE_iload 0 dX5_copy_216 (k := ?_)
      refine VE_iadd dX5_copy_218 ?_
      refine VE_iald dX5_copy_219 ((h.2 c1).2 c2).1 ?_
      refine VE_iast dX5_copy_220 ((h.2 c1).2 c2).2.1 ?_
      refine VE_iinc 9 (x8 + 1) (ls' := [(8, vI (x8 + 1)), (9, vI ((x5 - 1) - x8)), (0, vR 23), (1, vI x1), (2, vI x2), (3, vI x3), (4, vI x4), (5, vI x5), (6, vI x6), (7, vI x7)]) dX5_copy_221 ?_
      refine VE_goto 166 dX5_copy_224 ?_
      exact VE_sub [2, 3, 4, 5, 6, 7, 8, 9, 0] rfl ((h.2 c1).2 c2).2.2
theorem dX5_begins_0 : decode cX5_begins 0 = .ok (.aload_n 0, 1) := by decide +kernel
theorem dX5_begins_1 : decode cX5_begins 1 = .ok (.bipush 31, 2) := by decide +kernel
theorem dX5_begins_3 : decode cX5_begins 3 = .ok (.aload_n 0, 1) := by decide +kernel
theorem dX5_begins_4 : decode cX5_begins 4 = .ok (.getfield 182, 3) := by decide +kernel
theorem dX5_begins_7 : decode cX5_begins 7 = .ok (.imul, 1) := by decide +kernel
theorem dX5_begins_8 : decode cX5_begins 8 = .ok (.iload_n 1, 1) := by decide +kernel
theorem dX5_begins_9 : decode cX5_begins 9 = .ok (.iadd, 1) := by decide +kernel
theorem dX5_begins_10 : decode cX5_begins 10 = .ok (.putfield 182, 3) := by decide +kernel
theorem dX5_begins_13 : decode cX5_begins 13 = .ok (.return_, 1) := by decide +kernel
set_option maxRecDepth 20000 in
theorem S_X5_begins_0 {g : GG} {d : Nat} {F : St → Prop} (a1 : Int32) (σ : St) (h : F (sU σ 23 1 ((31 * (σ 23 1)) + a1))) : VM g d M_X5_begins (qV F) 0 [(0, vR 23), (1, vI a1)] [] σ := by
  refine VE_aload_n 0 dX5_begins_0 (k := ?_)
  refine VE_bipush 31 dX5_begins_1 (k := ?_)
  refine VE_aload_n 0 dX5_begins_3 (k := ?_)
  refine VE_getI dX5_begins_4 fl_X5_182 ?_
  refine VE_imul dX5_begins_7 ?_
  refine VE_iload_n 1 dX5_begins_8 (k := ?_)
  refine VE_iadd dX5_begins_9 ?_
  refine VE_put dX5_begins_10 fl_X5_182 ?_
  exact VM_vret dX5_begins_13 h
theorem dX5_tell_0 : decode cX5_tell 0 = .ok (.aload_n 0, 1) := by decide +kernel
theorem dX5_tell_1 : decode cX5_tell 1 = .ok (.iload_n 1, 1) := by decide +kernel
theorem dX5_tell_2 : decode cX5_tell 2 = .ok (.invokevirtual 100, 3) := by decide +kernel
theorem dX5_tell_5 : decode cX5_tell 5 = .ok (.ifCond .ne 5, 3) := by decide +kernel
theorem dX5_tell_8 : decode cX5_tell 8 = .ok (.iconst (-1), 1) := by decide +kernel
theorem dX5_tell_9 : decode cX5_tell 9 = .ok (.ireturn, 1) := by decide +kernel
theorem dX5_tell_10 : decode cX5_tell 10 = .ok (.aload_n 0, 1) := by decide +kernel
theorem dX5_tell_11 : decode cX5_tell 11 = .ok (.getfield 22, 3) := by decide +kernel
theorem dX5_tell_14 : decode cX5_tell 14 = .ok (.iload_n 1, 1) := by decide +kernel
theorem dX5_tell_15 : decode cX5_tell 15 = .ok (.iaload, 1) := by decide +kernel
theorem dX5_tell_16 : decode cX5_tell 16 = .ok (.istore_n 2, 1) := by decide +kernel
theorem dX5_tell_17 : decode cX5_tell 17 = .ok (.aload_n 0, 1) := by decide +kernel
theorem dX5_tell_18 : decode cX5_tell 18 = .ok (.getfield 19, 3) := by decide +kernel
theorem dX5_tell_21 : decode cX5_tell 21 = .ok (.iload_n 1, 1) := by decide +kernel
theorem dX5_tell_22 : decode cX5_tell 22 = .ok (.iaload, 1) := by decide +kernel
theorem dX5_tell_23 : decode cX5_tell 23 = .ok (.lookupswitch 67 #[(1, 25), (2, 40)], 25) := by decide +kernel
theorem dX5_tell_48 : decode cX5_tell 48 = .ok (.aload_n 0, 1) := by decide +kernel
theorem dX5_tell_49 : decode cX5_tell 49 = .ok (.iconst 2, 1) := by decide +kernel
theorem dX5_tell_50 : decode cX5_tell 50 = .ok (.invokevirtual 185, 3) := by decide +kernel
theorem dX5_tell_53 : decode cX5_tell 53 = .ok (.aload_n 0, 1) := by decide +kernel
theorem dX5_tell_54 : decode cX5_tell 54 = .ok (.iconst 1, 1) := by decide +kernel
theorem dX5_tell_55 : decode cX5_tell 55 = .ok (.invokevirtual 185, 3) := by decide +kernel
theorem dX5_tell_58 : decode cX5_tell 58 = .ok (.iload_n 2, 1) := by decide +kernel
theorem dX5_tell_59 : decode cX5_tell 59 = .ok (.bipush 100, 2) := by decide +kernel
theorem dX5_tell_61 : decode cX5_tell 61 = .ok (.iadd, 1) := by decide +kernel
theorem dX5_tell_62 : decode cX5_tell 62 = .ok (.ireturn, 1) := by decide +kernel
theorem dX5_tell_63 : decode cX5_tell 63 = .ok (.aload_n 0, 1) := by decide +kernel
theorem dX5_tell_64 : decode cX5_tell 64 = .ok (.iconst 3, 1) := by decide +kernel
theorem dX5_tell_65 : decode cX5_tell 65 = .ok (.invokevirtual 185, 3) := by decide +kernel
theorem dX5_tell_68 : decode cX5_tell 68 = .ok (.aload_n 0, 1) := by decide +kernel
theorem dX5_tell_69 : decode cX5_tell 69 = .ok (.iconst 2, 1) := by decide +kernel
theorem dX5_tell_70 : decode cX5_tell 70 = .ok (.invokevirtual 185, 3) := by decide +kernel
theorem dX5_tell_73 : decode cX5_tell 73 = .ok (.aload_n 0, 1) := by decide +kernel
theorem dX5_tell_74 : decode cX5_tell 74 = .ok (.iconst 1, 1) := by decide +kernel
theorem dX5_tell_75 : decode cX5_tell 75 = .ok (.invokevirtual 185, 3) := by decide +kernel
theorem dX5_tell_78 : decode cX5_tell 78 = .ok (.aload_n 0, 1) := by decide +kernel
theorem dX5_tell_79 : decode cX5_tell 79 = .ok (.iconst 1, 1) := by decide +kernel
theorem dX5_tell_80 : decode cX5_tell 80 = .ok (.invokevirtual 185, 3) := by decide +kernel
theorem dX5_tell_83 : decode cX5_tell 83 = .ok (.iconst 2, 1) := by decide +kernel
theorem dX5_tell_84 : decode cX5_tell 84 = .ok (.iload_n 2, 1) := by decide +kernel
theorem dX5_tell_85 : decode cX5_tell 85 = .ok (.imul, 1) := by decide +kernel
theorem dX5_tell_86 : decode cX5_tell 86 = .ok (.bipush 100, 2) := by decide +kernel
theorem dX5_tell_88 : decode cX5_tell 88 = .ok (.iadd, 1) := by decide +kernel
theorem dX5_tell_89 : decode cX5_tell 89 = .ok (.ireturn, 1) := by decide +kernel
theorem dX5_tell_90 : decode cX5_tell 90 = .ok (.aload_n 0, 1) := by decide +kernel
theorem dX5_tell_91 : decode cX5_tell 91 = .ok (.iconst 1, 1) := by decide +kernel
theorem dX5_tell_92 : decode cX5_tell 92 = .ok (.invokevirtual 185, 3) := by decide +kernel
theorem dX5_tell_95 : decode cX5_tell 95 = .ok (.iload_n 2, 1) := by decide +kernel
theorem dX5_tell_96 : decode cX5_tell 96 = .ok (.ireturn, 1) := by decide +kernel
set_option maxRecDepth 20000 in
theorem S_X5_tell_0 {g : GG} {d : Nat} {F : Int32 → St → Prop} (a1 : Int32) (σ : St) (h : (ME g d M_X5_isHead [vR 23, vI a1] σ (qI (fun r1 σ2 => ((¬ r1 = 0 → (vp_in a1 5 ∧ (((σ2 27 a1.toNatClampNeg) = 1 → (ME g d M_X5_begins [vR 23, vI 2] σ2 (qV (fun σ8 => (ME g d M_X5_begins [vR 23, vI 1] σ8 (qV (fun σ11 => F ((σ2 28 a1.toNatClampNeg) + 100) σ11))))))) ∧ (¬ (σ2 27 a1.toNatClampNeg) = 1 → (((σ2 27 a1.toNatClampNeg) = 2 → (ME g d M_X5_begins [vR 23, vI 3] σ2 (qV (fun σ14 => (ME g d M_X5_begins [vR 23, vI 2] σ14 (qV (fun σ17 => (ME g d M_X5_begins [vR 23, vI 1] σ17 (qV (fun σ20 => (ME g d M_X5_begins [vR 23, vI 1] σ20 (qV (fun σ23 => F ((2 * (σ2 28 a1.toNatClampNeg)) + 100) σ23))))))))))))) ∧ (¬ (σ2 27 a1.toNatClampNeg) = 2 → (ME g d M_X5_begins [vR 23, vI 1] σ2 (qV (fun σ26 => F (σ2 28 a1.toNatClampNeg) σ26))))))))) ∧ (r1 = 0 → F (-1) σ2)))))) : VM g (d + 1) M_X5_tell (qI F) 0 [(0, vR 23), (1, vI a1)] [] σ := by
  refine VE_aload_n 0 dX5_tell_0 (k := ?_)
  refine VE_iload_n 1 dX5_tell_1 (k := ?_)
  refine VE_cVi [vI a1] dX5_tell_2 ml_X5_100 h (fun r1 σ2 h3 => ?_) (rok_D d)
  refine VE_if_ne 10 dX5_tell_5 (fun c4 => ?_) (fun c4 => ?_)
  · refine VE_aload_n 0 dX5_tell_10 (k := ?_)
    refine VE_getR 28 dX5_tell_11 fl_X5_22 ?_
    refine VE_iload_n 1 dX5_tell_14 (k := ?_)
    refine VE_iald dX5_tell_15 (h3.1 c4).1 ?_
    refine VE_istore_n (ls' := [(2, vI (σ2 28 a1.toNatClampNeg)), (0, vR 23), (1, vI a1)]) dX5_tell_16 ?_
    refine VE_aload_n 1 dX5_tell_17 (k := ?_)
    refine VE_getR 27 dX5_tell_18 fl_X5_19 ?_
    refine VE_iload_n 2 dX5_tell_21 (k := ?_)
    refine VE_iald dX5_tell_22 (h3.1 c4).1 ?_
    by_cases c5 : (σ2 27 a1.toNatClampNeg) = 1
    · refine VE_lookup (off := 25) 48 dX5_tell_23 (by decide) (by rw [c5]; first | done | rfl) ?_
      refine VE_aload_n 1 dX5_tell_48 (k := ?_)
      refine VE_iconst 2 dX5_tell_49 (k := ?_)
      refine VE_cVv [vI 2] dX5_tell_50 ml_X5_185 ((h3.1 c4).2.1 c5) (fun σ8 h9 => ?_) (rok_D d)
      refine VE_aload_n 1 dX5_tell_53 (k := ?_)
      refine VE_iconst 1 dX5_tell_54 (k := ?_)
      refine VE_cVv [vI 1] dX5_tell_55 ml_X5_185 h9 (fun σ11 h12 => ?_) (rok_D d)
      refine VE_iload_n 0 dX5_tell_58 (k := ?_)
      refine VE_bipush 100 dX5_tell_59 (k := ?_)
      refine VE_iadd dX5_tell_61 ?_
      exact VM_iret dX5_tell_62 h12
    · by_cases c6 : (σ2 27 a1.toNatClampNeg) = 2
      · refine VE_lookup (off := 40) 63 dX5_tell_23 (by decide) (by rw [c6]; first | done | rfl) ?_
        refine VE_aload_n 1 dX5_tell_63 (k := ?_)
        refine VE_iconst 3 dX5_tell_64 (k := ?_)
        refine VE_cVv [vI 3] dX5_tell_65 ml_X5_185 (((h3.1 c4).2.2 c5).1 c6) (fun σ14 h15 => ?_) (rok_D d)
        refine VE_aload_n 1 dX5_tell_68 (k := ?_)
        refine VE_iconst 2 dX5_tell_69 (k := ?_)
        refine VE_cVv [vI 2] dX5_tell_70 ml_X5_185 h15 (fun σ17 h18 => ?_) (rok_D d)
        refine VE_aload_n 1 dX5_tell_73 (k := ?_)
        refine VE_iconst 1 dX5_tell_74 (k := ?_)
        refine VE_cVv [vI 1] dX5_tell_75 ml_X5_185 h18 (fun σ20 h21 => ?_) (rok_D d)
        refine VE_aload_n 1 dX5_tell_78 (k := ?_)
        refine VE_iconst 1 dX5_tell_79 (k := ?_)
        refine VE_cVv [vI 1] dX5_tell_80 ml_X5_185 h21 (fun σ23 h24 => ?_) (rok_D d)
        refine VE_iconst 2 dX5_tell_83 (k := ?_)
        refine VE_iload_n 0 dX5_tell_84 (k := ?_)
        refine VE_imul dX5_tell_85 ?_
        refine VE_bipush 100 dX5_tell_86 (k := ?_)
        refine VE_iadd dX5_tell_88 ?_
        exact VM_iret dX5_tell_89 h24
      · refine VE_lookup (off := 67) 90 dX5_tell_23 (by decide) ((lv_osw c5 rfl).trans (lv_osw c6 rfl)) ?_
        refine VE_aload_n 1 dX5_tell_90 (k := ?_)
        refine VE_iconst 1 dX5_tell_91 (k := ?_)
        refine VE_cVv [vI 1] dX5_tell_92 ml_X5_185 (((h3.1 c4).2.2 c5).2 c6) (fun σ26 h27 => ?_) (rok_D d)
        refine VE_iload_n 0 dX5_tell_95 (k := ?_)
        exact VM_iret dX5_tell_96 h27
  · refine VE_iconst (-1) dX5_tell_8 (k := ?_)
    exact VM_iret dX5_tell_9 (h3.2 c4)
theorem dX5_greet_0 : decode cX5_greet 0 = .ok (.aload_n 0, 1) := by decide +kernel
theorem dX5_greet_1 : decode cX5_greet 1 = .ok (.iload_n 1, 1) := by decide +kernel
theorem dX5_greet_2 : decode cX5_greet 2 = .ok (.invokevirtual 100, 3) := by decide +kernel
theorem dX5_greet_5 : decode cX5_greet 5 = .ok (.ifCond .ne 5, 3) := by decide +kernel
theorem dX5_greet_8 : decode cX5_greet 8 = .ok (.iconst (-1), 1) := by decide +kernel
theorem dX5_greet_9 : decode cX5_greet 9 = .ok (.ireturn, 1) := by decide +kernel
theorem dX5_greet_10 : decode cX5_greet 10 = .ok (.aload_n 0, 1) := by decide +kernel
theorem dX5_greet_11 : decode cX5_greet 11 = .ok (.aload_n 0, 1) := by decide +kernel
theorem dX5_greet_12 : decode cX5_greet 12 = .ok (.getfield 19, 3) := by decide +kernel
theorem dX5_greet_15 : decode cX5_greet 15 = .ok (.iload_n 1, 1) := by decide +kernel
theorem dX5_greet_16 : decode cX5_greet 16 = .ok (.iaload, 1) := by decide +kernel
theorem dX5_greet_17 : decode cX5_greet 17 = .ok (.iconst 2, 1) := by decide +kernel
theorem dX5_greet_18 : decode cX5_greet 18 = .ok (.if_icmp .ne 7, 3) := by decide +kernel
theorem dX5_greet_21 : decode cX5_greet 21 = .ok (.iconst 5, 1) := by decide +kernel
theorem dX5_greet_22 : decode cX5_greet 22 = .ok (.goto 4, 3) := by decide +kernel
theorem dX5_greet_25 : decode cX5_greet 25 = .ok (.iconst 4, 1) := by decide +kernel
theorem dX5_greet_26 : decode cX5_greet 26 = .ok (.invokevirtual 185, 3) := by decide +kernel
theorem dX5_greet_29 : decode cX5_greet 29 = .ok (.aload_n 0, 1) := by decide +kernel
theorem dX5_greet_30 : decode cX5_greet 30 = .ok (.getfield 19, 3) := by decide +kernel
theorem dX5_greet_33 : decode cX5_greet 33 = .ok (.iload_n 1, 1) := by decide +kernel
theorem dX5_greet_34 : decode cX5_greet 34 = .ok (.iaload, 1) := by decide +kernel
theorem dX5_greet_35 : decode cX5_greet 35 = .ok (.iconst 2, 1) := by decide +kernel
theorem dX5_greet_36 : decode cX5_greet 36 = .ok (.if_icmp .ne 8, 3) := by decide +kernel
theorem dX5_greet_39 : decode cX5_greet 39 = .ok (.bipush 90, 2) := by decide +kernel
theorem dX5_greet_41 : decode cX5_greet 41 = .ok (.goto 4, 3) := by decide +kernel
theorem dX5_greet_44 : decode cX5_greet 44 = .ok (.iload_n 1, 1) := by decide +kernel
theorem dX5_greet_45 : decode cX5_greet 45 = .ok (.ireturn, 1) := by decide +kernel
set_option maxRecDepth 20000 in
theorem S_X5_greet_0 {g : GG} {d : Nat} {F : Int32 → St → Prop} (a1 : Int32) (σ : St) (h : (ME g d M_X5_isHead [vR 23, vI a1] σ (qI (fun r1 σ2 => ((¬ r1 = 0 → (vp_in a1 5 ∧ ((¬ (σ2 27 a1.toNatClampNeg) = 2 → (ME g d M_X5_begins [vR 23, vI 4] σ2 (qV (fun σ7 => ((¬ (σ7 27 a1.toNatClampNeg) = 2 → F a1 σ7) ∧ ((σ7 27 a1.toNatClampNeg) = 2 → F 90 σ7)))))) ∧ ((σ2 27 a1.toNatClampNeg) = 2 → (ME g d M_X5_begins [vR 23, vI 5] σ2 (qV (fun σ11 => ((¬ (σ11 27 a1.toNatClampNeg) = 2 → F a1 σ11) ∧ ((σ11 27 a1.toNatClampNeg) = 2 → F 90 σ11))))))))) ∧ (r1 = 0 → F (-1) σ2)))))) : VM g (d + 1) M_X5_greet (qI F) 0 [(0, vR 23), (1, vI a1)] [] σ := by
  refine VE_aload_n 0 dX5_greet_0 (k := ?_)
  refine VE_iload_n 1 dX5_greet_1 (k := ?_)
  refine VE_cVi [vI a1] dX5_greet_2 ml_X5_100 h (fun r1 σ2 h3 => ?_) (rok_D d)
  refine VE_if_ne 10 dX5_greet_5 (fun c4 => ?_) (fun c4 => ?_)
  · refine VE_aload_n 0 dX5_greet_10 (k := ?_)
    refine VE_aload_n 0 dX5_greet_11 (k := ?_)
    refine VE_getR 27 dX5_greet_12 fl_X5_19 ?_
    refine VE_iload_n 1 dX5_greet_15 (k := ?_)
    refine VE_iald dX5_greet_16 (h3.1 c4).1 ?_
    refine VE_iconst 2 dX5_greet_17 (k := ?_)
    refine VE_icmp_ne 25 dX5_greet_18 (fun c5 => ?_) (fun c5 => ?_)
    · refine VE_iconst 4 dX5_greet_25 (k := ?_)
      refine VE_cVv [vI 4] dX5_greet_26 ml_X5_185 ((h3.1 c4).2.1 c5) (fun σ7 h8 => ?_) (rok_D d)
      refine VE_aload_n 0 dX5_greet_29 (k := ?_)
      refine VE_getR 27 dX5_greet_30 fl_X5_19 ?_
      refine VE_iload_n 1 dX5_greet_33 (k := ?_)
      refine VE_iald dX5_greet_34 (h3.1 c4).1 ?_
      refine VE_iconst 2 dX5_greet_35 (k := ?_)
      refine VE_icmp_ne 44 dX5_greet_36 (fun c9 => ?_) (fun c9 => ?_)
      · refine VE_iload_n 1 dX5_greet_44 (k := ?_)
        exact VM_iret dX5_greet_45 (h8.1 c9)
      · refine VE_bipush 90 dX5_greet_39 (k := ?_)
        refine VE_goto 45 dX5_greet_41 ?_
        exact VM_iret dX5_greet_45 (h8.2 c9)
    · refine VE_iconst 5 dX5_greet_21 (k := ?_)
      refine VE_goto 26 dX5_greet_22 ?_
      refine VE_cVv [vI 5] dX5_greet_26 ml_X5_185 ((h3.1 c4).2.2 c5) (fun σ11 h12 => ?_) (rok_D d)
      refine VE_aload_n 0 dX5_greet_29 (k := ?_)
      refine VE_getR 27 dX5_greet_30 fl_X5_19 ?_
      refine VE_iload_n 1 dX5_greet_33 (k := ?_)
      refine VE_iald dX5_greet_34 (h3.1 c4).1 ?_
      refine VE_iconst 2 dX5_greet_35 (k := ?_)
      refine VE_icmp_ne 44 dX5_greet_36 (fun c13 => ?_) (fun c13 => ?_)
      · refine VE_iload_n 1 dX5_greet_44 (k := ?_)
        exact VM_iret dX5_greet_45 (h12.1 c13)
      · refine VE_bipush 90 dX5_greet_39 (k := ?_)
        refine VE_goto 45 dX5_greet_41 ?_
        exact VM_iret dX5_greet_45 (h12.2 c13)
  · refine VE_iconst (-1) dX5_greet_8 (k := ?_)
    exact VM_iret dX5_greet_9 (h3.2 c4)
theorem dX5_as_0 : decode cX5_as 0 = .ok (.aload_n 0, 1) := by decide +kernel
theorem dX5_as_1 : decode cX5_as 1 = .ok (.iconst 0, 1) := by decide +kernel
theorem dX5_as_2 : decode cX5_as 2 = .ok (.putfield 49, 3) := by decide +kernel
theorem dX5_as_5 : decode cX5_as 5 = .ok (.aload_n 0, 1) := by decide +kernel
theorem dX5_as_6 : decode cX5_as 6 = .ok (.iload_n 1, 1) := by decide +kernel
theorem dX5_as_7 : decode cX5_as 7 = .ok (.invokevirtual 100, 3) := by decide +kernel
theorem dX5_as_10 : decode cX5_as 10 = .ok (.ifCond .ne 5, 3) := by decide +kernel
theorem dX5_as_13 : decode cX5_as 13 = .ok (.iconst (-1), 1) := by decide +kernel
theorem dX5_as_14 : decode cX5_as 14 = .ok (.ireturn, 1) := by decide +kernel
theorem dX5_as_15 : decode cX5_as 15 = .ok (.iload_n 2, 1) := by decide +kernel
theorem dX5_as_16 : decode cX5_as 16 = .ok (.iconst 0, 1) := by decide +kernel
theorem dX5_as_17 : decode cX5_as 17 = .ok (.iconst 2, 1) := by decide +kernel
theorem dX5_as_18 : decode cX5_as 18 = .ok (.invokestatic 55, 3) := by decide +kernel
theorem dX5_as_21 : decode cX5_as 21 = .ok (.ifCond .ne 6, 3) := by decide +kernel
theorem dX5_as_24 : decode cX5_as 24 = .ok (.bipush (-2), 2) := by decide +kernel
theorem dX5_as_26 : decode cX5_as 26 = .ok (.ireturn, 1) := by decide +kernel
theorem dX5_as_27 : decode cX5_as 27 = .ok (.aload_n 0, 1) := by decide +kernel
theorem dX5_as_28 : decode cX5_as 28 = .ok (.getfield 19, 3) := by decide +kernel
theorem dX5_as_31 : decode cX5_as 31 = .ok (.iload_n 1, 1) := by decide +kernel
theorem dX5_as_32 : decode cX5_as 32 = .ok (.iaload, 1) := by decide +kernel
theorem dX5_as_33 : decode cX5_as 33 = .ok (.iload_n 2, 1) := by decide +kernel
theorem dX5_as_34 : decode cX5_as 34 = .ok (.if_icmp .lt 7, 3) := by decide +kernel
theorem dX5_as_37 : decode cX5_as 37 = .ok (.iconst 1, 1) := by decide +kernel
theorem dX5_as_38 : decode cX5_as 38 = .ok (.goto 8, 3) := by decide +kernel
theorem dX5_as_41 : decode cX5_as 41 = .ok (.aload_n 0, 1) := by decide +kernel
theorem dX5_as_42 : decode cX5_as 42 = .ok (.iconst 2, 1) := by decide +kernel
theorem dX5_as_43 : decode cX5_as 43 = .ok (.invokevirtual 76, 3) := by decide +kernel
theorem dX5_as_46 : decode cX5_as 46 = .ok (.ireturn, 1) := by decide +kernel
set_option maxRecDepth 20000 in
theorem S_X5_as_0 {g : GG} {d : Nat} {F : Int32 → St → Prop} (a1 : Int32) (a2 : Int32) (σ : St) (h : (ME g d M_X5_isHead [vR 23, vI a1] (sU σ 23 0 0) (qI (fun r1 σ2 => ((¬ r1 = 0 → (ME g d M_X5_within [vI a2, vI 0, vI 2] σ2 (qI (fun r5 σ6 => ((¬ r5 = 0 → (vp_in a1 5 ∧ (((σ6 27 a1.toNatClampNeg) < a2 → (ME g d M_X5_fails [vR 23, vI 2] σ6 (qI (fun r10 σ11 => F r10 σ11)))) ∧ (¬ (σ6 27 a1.toNatClampNeg) < a2 → F 1 σ6)))) ∧ (r5 = 0 → F (-2) σ6)))))) ∧ (r1 = 0 → F (-1) σ2)))))) : VM g (d + 1) M_X5_as (qI F) 0 [(0, vR 23), (1, vI a1), (2, vI a2)] [] σ := by
  refine VE_aload_n 0 dX5_as_0 (k := ?_)
  refine VE_iconst 0 dX5_as_1 (k := ?_)
  refine VE_put dX5_as_2 fl_X5_49 ?_
  refine VE_aload_n 0 dX5_as_5 (k := ?_)
  refine VE_iload_n 1 dX5_as_6 (k := ?_)
  refine VE_cVi [vI a1] dX5_as_7 ml_X5_100 h (fun r1 σ2 h3 => ?_) (rok_D d)
  refine VE_if_ne 15 dX5_as_10 (fun c4 => ?_) (fun c4 => ?_)
  · refine VE_iload_n 2 dX5_as_15 (k := ?_)
    refine VE_iconst 0 dX5_as_16 (k := ?_)
    refine VE_iconst 2 dX5_as_17 (k := ?_)
    refine VE_cSi [vI a2, vI 0, vI 2] dX5_as_18 ml_X5_55 (h3.1 c4) (fun r5 σ6 h7 => ?_) (rok_D d)
    refine VE_if_ne 27 dX5_as_21 (fun c8 => ?_) (fun c8 => ?_)
    · refine VE_aload_n 0 dX5_as_27 (k := ?_)
      refine VE_getR 27 dX5_as_28 fl_X5_19 ?_
      refine VE_iload_n 1 dX5_as_31 (k := ?_)
      refine VE_iald dX5_as_32 (h7.1 c8).1 ?_
      refine VE_iload_n 2 dX5_as_33 (k := ?_)
      refine VE_icmp_lt 41 dX5_as_34 (fun c9 => ?_) (fun c9 => ?_)
      · refine VE_aload_n 0 dX5_as_41 (k := ?_)
        refine VE_iconst 2 dX5_as_42 (k := ?_)
        refine VE_cVi [vI 2] dX5_as_43 ml_X5_76 ((h7.1 c8).2.1 c9) (fun r10 σ11 h12 => ?_) (rok_D d)
        exact VM_iret dX5_as_46 h12
      · refine VE_iconst 1 dX5_as_37 (k := ?_)
        refine VE_goto 46 dX5_as_38 ?_
        exact VM_iret dX5_as_46 ((h7.1 c8).2.2 c9)
    · refine VE_bipush (-2) dX5_as_24 (k := ?_)
      exact VM_iret dX5_as_26 (h7.2 c8)
  · refine VE_iconst (-1) dX5_as_13 (k := ?_)
    exact VM_iret dX5_as_14 (h3.2 c4)
theorem dX5_trace_0 : decode cX5_trace 0 = .ok (.aload_n 0, 1) := by decide +kernel
theorem dX5_trace_1 : decode cX5_trace 1 = .ok (.getfield 182, 3) := by decide +kernel
theorem dX5_trace_4 : decode cX5_trace 4 = .ok (.ireturn, 1) := by decide +kernel
set_option maxRecDepth 20000 in
theorem S_X5_trace_0 {g : GG} {d : Nat} {F : Int32 → St → Prop}  (σ : St) (h : F (σ 23 1) σ) : VM g d M_X5_trace (qI F) 0 [(0, vR 23)] [] σ := by
  refine VE_aload_n 0 dX5_trace_0 (k := ?_)
  refine VE_getI dX5_trace_1 fl_X5_182 ?_
  exact VM_iret dX5_trace_4 h
theorem dX5_fault_0 : decode cX5_fault 0 = .ok (.aload_n 0, 1) := by decide +kernel
theorem dX5_fault_1 : decode cX5_fault 1 = .ok (.getfield 49, 3) := by decide +kernel
theorem dX5_fault_4 : decode cX5_fault 4 = .ok (.ireturn, 1) := by decide +kernel
set_option maxRecDepth 20000 in
theorem S_X5_fault_0 {g : GG} {d : Nat} {F : Int32 → St → Prop}  (σ : St) (h : F (σ 23 0) σ) : VM g d M_X5_fault (qI F) 0 [(0, vR 23)] [] σ := by
  refine VE_aload_n 0 dX5_fault_0 (k := ?_)
  refine VE_getI dX5_fault_1 fl_X5_49 ?_
  exact VM_iret dX5_fault_4 h
theorem dX5_many_0 : decode cX5_many 0 = .ok (.iload_n 1, 1) := by decide +kernel
theorem dX5_many_1 : decode cX5_many 1 = .ok (.ifCond .ne 10, 3) := by decide +kernel
theorem dX5_many_4 : decode cX5_many 4 = .ok (.aload_n 0, 1) := by decide +kernel
theorem dX5_many_5 : decode cX5_many 5 = .ok (.getfield 59, 3) := by decide +kernel
theorem dX5_many_8 : decode cX5_many 8 = .ok (.goto 17, 3) := by decide +kernel
theorem dX5_many_11 : decode cX5_many 11 = .ok (.iload_n 1, 1) := by decide +kernel
theorem dX5_many_12 : decode cX5_many 12 = .ok (.iconst 1, 1) := by decide +kernel
theorem dX5_many_13 : decode cX5_many 13 = .ok (.if_icmp .ne 10, 3) := by decide +kernel
theorem dX5_many_16 : decode cX5_many 16 = .ok (.aload_n 0, 1) := by decide +kernel
theorem dX5_many_17 : decode cX5_many 17 = .ok (.getfield 86, 3) := by decide +kernel
theorem dX5_many_20 : decode cX5_many 20 = .ok (.goto 5, 3) := by decide +kernel
theorem dX5_many_23 : decode cX5_many 23 = .ok (.bipush (-2), 2) := by decide +kernel
theorem dX5_many_25 : decode cX5_many 25 = .ok (.ireturn, 1) := by decide +kernel
set_option maxRecDepth 20000 in
theorem S_X5_many_0 {g : GG} {d : Nat} {F : Int32 → St → Prop} (a1 : Int32) (σ : St) (h : ((¬ a1 = 0 → ((¬ a1 = 1 → F (-2) σ) ∧ (a1 = 1 → F (σ 23 18) σ))) ∧ (a1 = 0 → F (σ 23 5) σ))) : VM g d M_X5_many (qI F) 0 [(0, vR 23), (1, vI a1)] [] σ := by
  refine VE_iload_n 1 dX5_many_0 (k := ?_)
  refine VE_if_ne 11 dX5_many_1 (fun c1 => ?_) (fun c1 => ?_)
  · refine VE_iload_n 1 dX5_many_11 (k := ?_)
    refine VE_iconst 1 dX5_many_12 (k := ?_)
    refine VE_icmp_ne 23 dX5_many_13 (fun c2 => ?_) (fun c2 => ?_)
    · refine VE_bipush (-2) dX5_many_23 (k := ?_)
      exact VM_iret dX5_many_25 ((h.1 c1).1 c2)
    · refine VE_aload_n 0 dX5_many_16 (k := ?_)
      refine VE_getI dX5_many_17 fl_X5_86 ?_
      refine VE_goto 25 dX5_many_20 ?_
      exact VM_iret dX5_many_25 ((h.1 c1).2 c2)
  · refine VE_aload_n 0 dX5_many_4 (k := ?_)
    refine VE_getI dX5_many_5 fl_X5_59 ?_
    refine VE_goto 25 dX5_many_8 ?_
    exact VM_iret dX5_many_25 (h.2 c1)
