/-! contracts by the kind of answer; sheets; switches; arraycopy -/
theorem ME_mono {g : GG} {d : Nat} {M : MD} {as : List MV} {σ : St} {Q Q' : MV → St → Prop} (h : ME g d M as σ Q) (hQ : ∀ r σ', Q r σ' → Q' r σ') : ME g d M as σ Q' := by
  intro hA p e ha hc hk s m args below hf happ hp hK
  obtain ⟨n, o, h1, h2, h3, ⟨⟨r, σ', e1, e2, e3⟩, h5⟩, h6⟩ := h hA p e ha hc hk s m args below hf happ hp hK
  exact ⟨n, o, h1, h2, h3, ⟨⟨r, σ', e1, hQ r σ' e2, e3⟩, h5⟩, h6⟩
def qI (F : Int32 → St → Prop) : MV → St → Prop := fun r σ => match r with
  | .inl x => F x σ
  | _ => False
def qL (F : Int64 → St → Prop) : MV → St → Prop := fun r σ => match r with
  | .inr (.inl x) => F x σ
  | _ => False
def qV (F : St → Prop) : MV → St → Prop := fun _ σ => F σ
section TCALL
variable {g : GG} {R : Room} {kc ks : Nat} {ZZ : List Frame → Array Value → State → State → Prop} {AF : State → Nat → Prop} {EX : State → Prop} {M : MD} {pc : Nat} {ls : List (Nat × MV)} {st st0 : List MV} {σ : St}
theorem VE_cVi {idx d j n : Nat} {Z : MD} {F : Int32 → St → Prop} (as : List MV) (hd : decode M.2.1 pc = .ok (.invokevirtual idx, 3)) (ml : MV1 M.1.cls idx Z n) (hM : ME g d Z (vR j :: as) σ (qI F)) (kk : ∀ x σ', F x σ' → VE g R kc ks ZZ AF EX M (pc + 3) ls (vI x :: st) σ') (hR : rok R kc ks d) (hz : ∀ r, rl Z.2.2.2 r = [r] := by exact fun _ => rfl) (hj : ocl j = some Z.1.cls := by rfl) (hn : as.length = n := by rfl) (hst : as.reverse ++ vR j :: st = st0 := by rfl) (hw : Nat.ble (wdL st) 8 = true := by rfl) : VE g R kc ks ZZ AF EX M pc ls st0 σ := by
  refine VE_callV as hd ml (ME_mono hM (fun r σ' hq => ?_)) hR hj hn hst hw
  rw [hz r]
  rcases r with x | x | x
  · exact kk x σ' hq
  · exact hq.elim
  · exact hq.elim
theorem VE_cVl {idx d j n : Nat} {Z : MD} {F : Int64 → St → Prop} (as : List MV) (hd : decode M.2.1 pc = .ok (.invokevirtual idx, 3)) (ml : MV1 M.1.cls idx Z n) (hM : ME g d Z (vR j :: as) σ (qL F)) (kk : ∀ x σ', F x σ' → VE g R kc ks ZZ AF EX M (pc + 3) ls (vL x :: st) σ') (hR : rok R kc ks d) (hz : ∀ r, rl Z.2.2.2 r = [r] := by exact fun _ => rfl) (hj : ocl j = some Z.1.cls := by rfl) (hn : as.length = n := by rfl) (hst : as.reverse ++ vR j :: st = st0 := by rfl) (hw : Nat.ble (wdL st) 8 = true := by rfl) : VE g R kc ks ZZ AF EX M pc ls st0 σ := by
  refine VE_callV as hd ml (ME_mono hM (fun r σ' hq => ?_)) hR hj hn hst hw
  rw [hz r]
  rcases r with x | x | x
  · exact hq.elim
  · exact kk x σ' hq
  · exact hq.elim
theorem VE_cVv {idx d j n : Nat} {Z : MD} {F : St → Prop} (as : List MV) (hd : decode M.2.1 pc = .ok (.invokevirtual idx, 3)) (ml : MV1 M.1.cls idx Z n) (hM : ME g d Z (vR j :: as) σ (qV F)) (kk : ∀ σ', F σ' → VE g R kc ks ZZ AF EX M (pc + 3) ls st σ') (hR : rok R kc ks d) (hz : ∀ r, rl Z.2.2.2 r = [] := by exact fun _ => rfl) (hj : ocl j = some Z.1.cls := by rfl) (hn : as.length = n := by rfl) (hst : as.reverse ++ vR j :: st = st0 := by rfl) (hw : Nat.ble (wdL st) 8 = true := by rfl) : VE g R kc ks ZZ AF EX M pc ls st0 σ := by
  refine VE_callV as hd ml (ME_mono hM (fun r σ' hq => ?_)) hR hj hn hst hw
  rw [hz r]
  exact kk σ' hq
theorem VE_cSi {idx d n : Nat} {Z : MD} {F : Int32 → St → Prop} (as : List MV) (hd : decode M.2.1 pc = .ok (.invokestatic idx, 3)) (ml : MS1 M.1.cls idx Z n) (hM : ME g d Z as σ (qI F)) (kk : ∀ x σ', F x σ' → VE g R kc ks ZZ AF EX M (pc + 3) ls (vI x :: st) σ') (hR : rok R kc ks d) (hz : ∀ r, rl Z.2.2.2 r = [r] := by exact fun _ => rfl) (hn : as.length = n := by rfl) (hst : as.reverse ++ st = st0 := by rfl) (hw : Nat.ble (wdL st) 8 = true := by rfl) : VE g R kc ks ZZ AF EX M pc ls st0 σ := by
  refine VE_callS as hd ml (ME_mono hM (fun r σ' hq => ?_)) hR hn hst hw
  rw [hz r]
  rcases r with x | x | x
  · exact kk x σ' hq
  · exact hq.elim
  · exact hq.elim
theorem VE_cSl {idx d n : Nat} {Z : MD} {F : Int64 → St → Prop} (as : List MV) (hd : decode M.2.1 pc = .ok (.invokestatic idx, 3)) (ml : MS1 M.1.cls idx Z n) (hM : ME g d Z as σ (qL F)) (kk : ∀ x σ', F x σ' → VE g R kc ks ZZ AF EX M (pc + 3) ls (vL x :: st) σ') (hR : rok R kc ks d) (hz : ∀ r, rl Z.2.2.2 r = [r] := by exact fun _ => rfl) (hn : as.length = n := by rfl) (hst : as.reverse ++ st = st0 := by rfl) (hw : Nat.ble (wdL st) 8 = true := by rfl) : VE g R kc ks ZZ AF EX M pc ls st0 σ := by
  refine VE_callS as hd ml (ME_mono hM (fun r σ' hq => ?_)) hR hn hst hw
  rw [hz r]
  rcases r with x | x | x
  · exact hq.elim
  · exact kk x σ' hq
  · exact hq.elim
end TCALL
theorem vin_lt {i : Int32} {n : Nat} (h : vp_in i n) : i.toNatClampNeg < n := Nat.not_le.mp fun q => h (Or.inr q)
section SHEETS
variable {k : Nat} (hk : k < 4)
theorem k4 {P : Nat → Prop} (hk : k < 4) (h0 : P 0) (h1 : P 1) (h2 : P 2) (h3 : P 3) : P k := by
  match k, hk with
  | 0, _ => exact h0
  | 1, _ => exact h1
  | 2, _ => exact h2
  | 3, _ => exact h3
  | n + 4, h => omega
theorem sh_f0 (hk : k < 4) : ofld (2 + k) 3 0 = some (some (6 + k)) := k4 (P := fun k => ofld (2 + k) 3 0 = some (some (6 + k))) hk rfl rfl rfl rfl
theorem sh_f1 (hk : k < 4) : ofld (2 + k) 3 1 = some none := k4 (P := fun k => ofld (2 + k) 3 1 = some none) hk rfl rfl rfl rfl
theorem sh_f2 (hk : k < 4) : ofld (2 + k) 3 2 = some none := k4 (P := fun k => ofld (2 + k) 3 2 = some none) hk rfl rfl rfl rfl
theorem sh_A (hk : k < 4) : isA (6 + k) = true := k4 (P := fun k => isA (6 + k) = true) hk rfl rfl rfl rfl
theorem sh_len (hk : k < 4) : alen (6 + k) = 60 := k4 (P := fun k => alen (6 + k) = 60) hk rfl rfl rfl rfl
theorem sh_in (hk : k < 4) {i : Int32} (h : vp_in i 60) : vp_in i (alen (6 + k)) := by rw [sh_len hk]; exact h
theorem sh_ocl (hk : k < 4) : ocl (2 + k) = some RX3 := k4 (P := fun k => ocl (2 + k) = some RX3) hk rfl rfl rfl rfl
end SHEETS
theorem i32_ne {x v : Int32} (h : ¬ x = v) : ¬ x.toInt = v.toInt := fun q => h (Int32.toInt_inj.mp q)
theorem VE_copy {g : GG} {R : Room} {kc ks : Nat} {ZZ : List Frame → Array Value → State → State → Prop} {AF : State → Nat → Prop} {EX : State → Prop} {M : MD} {pc : Nat} {ls : List (Nat × MV)} {st : List MV} {σ : St} {idx j0 j1 i1 i2 i3 i4 : Nat} {sp dp n : Int32} (hd : decode M.2.1 pc = .ok (.invokestatic idx, 3)) (w1 : Wd i1 (.methodLink M.1.cls idx arraycopyName)) (w2 : Wd i2 (.native arraycopyName)) (w3 : Wd i3 (.static arraycopyName)) (w4 : Wd i4 (.initialized "java/lang/System"))
    (h1 : ¬ sp < 0) (h2 : ¬ dp < 0) (h3 : ¬ n < 0) (h4 : sp.toNatClampNeg + n.toNatClampNeg ≤ alen j0) (h5 : dp.toNatClampNeg + n.toNatClampNeg ≤ alen j1) (ha0 : isA j0 = true) (ha1 : isA j1 = true) (hR : 1 ≤ R.frames ∧ 40 ≤ R.locals) (hw : Nat.ble (wdL st) 8 = true)
    (kk : VE g R kc ks ZZ AF EX M (pc + 3) ls st (fun a => if a = j1 then va_cpy (σ j0) (σ j1) sp.toNatClampNeg dp.toNatClampNeg n.toNatClampNeg else σ a)) : VE g R kc ks ZZ AF EX M pc ls (vI n :: vI dp :: vR j1 :: vI sp :: vR j0 :: st) σ := by
  intro p e s m args below meth c H locs lA C hP hS hl
  obtain ⟨-, hj0, hc0⟩ := isA_sh ha0
  obtain ⟨-, hj1, hc1⟩ := isA_sh ha1
  have hts := C.2.2.2.2.2.1
  have hK := C.2.2.2.2.2.2.2.1
  have hAp := C.2.2.2.2.2.2.2.2.1
  have hset : (WS g σ).set j1 (g.2.2.1 j1, .inl (g.2.2.2.1, alen j1, .inl (va_cpy (σ j0) (σ j1) sp.toNatClampNeg dp.toNatClampNeg n.toNatClampNeg))) = WS g (fun a => if a = j1 then va_cpy (σ j0) (σ j1) sp.toNatClampNeg dp.toNatClampNeg n.toNatClampNeg else σ a) := WS_set g σ _ hj1 _ (by rw [hc1, if_pos rfl]) (fun i hi => if_neg hi)
  refine va_copyi (D := g.2.1) (tys := tysG g) (ty := .int) C.1 C.2.1 (C.2.2.2.1.trans hl.1.symm) C.2.2.2.2.1 (hts _ w1.U) (hts _ w2.U) (hts _ w3.U) (hts _ w4.U) hK hP (WS_D hAp.1 hAp.2 σ) hS j0 j1 0 0 (f := σ j0) (g := σ j1) (by rw [WS_at g σ hj0, hc0]) (by rw [WS_at g σ hj1, hc1]) rfl rfl rfl h1 h2 h3 h4 h5 (fun _ _ => rfl) hR.1 ?_ hd (fun H1 locs1 hP1 _ hS1 => kk p e s m args below meth c H1 locs1 lA C (by rw [hset] at hP1; exact hP1) hS1 hl)
  have hw2 := Nat.le_of_ble_eq_true hw
  rw [wdL_cat]
  have : nativeFrameWords "java/lang/System" "arraycopy" 5 + 11 ≤ 32 := by decide +kernel
  have := hR.2
  omega
section MINMAX
variable {g : GG} {R : Room} {kc ks : Nat} {ZZ : List Frame → Array Value → State → State → Prop} {AF : State → Nat → Prop} {EX : State → Prop} {M : MD} {pc : Nat} {ls : List (Nat × MV)} {st : List MV} {σ : St}
theorem VE_min {idx i1 i2 i3 i4 : Nat} {x y : Int32} (hd : decode M.2.1 pc = .ok (.invokestatic idx, 3)) (w1 : Wd i1 (.methodLink M.1.cls idx Lib.Math.min.name)) (w2 : Wd i2 (.static Lib.Math.min.name)) (w3 : Wd i3 (.initialized "java/lang/Math")) (w4 : Wd i4 (.code Lib.Math.min.name Lib.Math.min.code 2 (some .int))) (hR : 1 ≤ R.frames ∧ 40 ≤ R.locals ∧ kc ≤ R.cells ∧ ks ≤ R.slots) (hw : Nat.ble (wdL st) 8 = true) (kk : VE g R kc ks ZZ AF EX M (pc + 3) ls (vI (if y < x then y else x) :: st) σ) : VE g R kc ks ZZ AF EX M pc ls (vI y :: vI x :: st) σ := by
  intro p e s m args below meth c H locs lA C hP hS hl
  have hts := C.2.2.2.2.2.1
  have hw2 := Nat.le_of_ble_eq_true hw
  have h9 := hR.2.1
  exact va_mmin C.1 C.2.1 (C.2.2.2.1.trans hl.1.symm) C.2.2.2.2.1 (hts _ w1.U) (hts _ w2.U) (hts _ w3.U) (hts _ w4.U) hR.1 (by rw [wdL_cat]; omega) hR.2.2.1 hR.2.2.2 hd (kk p e s m args below meth c H locs lA C hP hS hl)
theorem VE_max {idx i1 i2 i3 i4 : Nat} {x y : Int32} (hd : decode M.2.1 pc = .ok (.invokestatic idx, 3)) (w1 : Wd i1 (.methodLink M.1.cls idx Lib.Math.max.name)) (w2 : Wd i2 (.static Lib.Math.max.name)) (w3 : Wd i3 (.initialized "java/lang/Math")) (w4 : Wd i4 (.code Lib.Math.max.name Lib.Math.max.code 2 (some .int))) (hR : 1 ≤ R.frames ∧ 40 ≤ R.locals ∧ kc ≤ R.cells ∧ ks ≤ R.slots) (hw : Nat.ble (wdL st) 8 = true) (kk : VE g R kc ks ZZ AF EX M (pc + 3) ls (vI (if x < y then y else x) :: st) σ) : VE g R kc ks ZZ AF EX M pc ls (vI y :: vI x :: st) σ := by
  intro p e s m args below meth c H locs lA C hP hS hl
  have hts := C.2.2.2.2.2.1
  have hw2 := Nat.le_of_ble_eq_true hw
  have h9 := hR.2.1
  exact va_mmax C.1 C.2.1 (C.2.2.2.1.trans hl.1.symm) C.2.2.2.2.1 (hts _ w1.U) (hts _ w2.U) (hts _ w3.U) (hts _ w4.U) hR.1 (by rw [wdL_cat]; omega) hR.2.2.1 hR.2.2.2 hd (kk p e s m args below meth c H locs lA C hP hS hl)
end MINMAX
