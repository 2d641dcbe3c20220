/-! returns, calls, a method's beginning -/
section RET
variable {g : GG} {d : Nat} {M : MD} {Q : MV → St → Prop} {pc : Nat} {ls : List (Nat × MV)} {σ : St}
theorem QcM_of {H : Heap} {locs : List Loc} {args : Array Value} {s : State} {rt : Option FieldType} {v : MV} (hP : va_P g.2.1 classes (WS g σ) H) (hS : va_S (AA g) s.heap H locs) (hQ : Q v σ) {o : Option Value} (ho : o = rvM g rt v) : ∀ t : State, t.heap = H → s.WarmedH t.vm → QcM g rt Q args s (.returned o) t :=
  fun t ht _ => ⟨⟨v, σ, by rw [ho], hQ, by rw [ht]; exact hP⟩, hS.F ht⟩
theorem VM_iret {v : Int32} (hd : decode M.2.1 pc = .ok (.ireturn, 1)) (hQ : Q (vI v) σ) (hr : M.2.2.2 = some .int := by rfl) : VM g d M Q pc ls [vI v] σ := by
  intro p e s m args below meth c H locs lA C hP hS hl
  exact W.iret (v := v) C.1 C.2.1 (by rw [C.2.2.1, hr]) (QcM_of hP hS hQ (by rw [hr]; rfl)) hS.2.2 hd C.2.2.2.2.2.2.1
theorem VM_zret {v : Int32} (hd : decode M.2.1 pc = .ok (.ireturn, 1)) (hQ : Q (vI v) σ) (hv : v = 0 ∨ v = 1) (hr : M.2.2.2 = some .boolean := by rfl) : VM g d M Q pc ls [vI v] σ := by
  intro p e s m args below meth c H locs lA C hP hS hl
  exact W.zret (v := v) (ty := .boolean) C.1 C.2.1 (by rw [C.2.2.1, hr]) (by rcases hv with rfl | rfl <;> rfl) (QcM_of hP hS hQ (by rw [hr]; rfl)) hS.2.2 hd C.2.2.2.2.2.2.1
theorem VM_lret {v : Int64} (hd : decode M.2.1 pc = .ok (.lreturn, 1)) (hQ : Q (vL v) σ) (hr : M.2.2.2 = some .long := by rfl) : VM g d M Q pc ls [vL v] σ := by
  intro p e s m args below meth c H locs lA C hP hS hl
  exact W.lret (v := v) C.1 C.2.1 (by rw [C.2.2.1, hr]) (QcM_of hP hS hQ (by rw [hr]; rfl)) hS.2.2 hd C.2.2.2.2.2.2.1
theorem VM_vret (hd : decode M.2.1 pc = .ok (.return_, 1)) (hQ : Q (vI 0) σ) (hr : M.2.2.2 = none := by rfl) : VM g d M Q pc ls [] σ := by
  intro p e s m args below meth c H locs lA C hP hS hl
  exact W.vret C.1 C.2.1 (by rw [C.2.2.1, hr]) (QcM_of (v := vI 0) hP hS hQ (by rw [hr]; rfl)) hS.2.2 hd C.2.2.2.2.2.2.1
end RET
def agL : Nat → List MV → List (Nat × MV)
  | _, [] => []
  | i, v :: vs => (i, v) :: agL (if cat2 v = true then i + 2 else i + 1) vs
theorem agL_ok (g : GG) : ∀ (as : List MV) (i : Nat), lv_args i (as.map (toV g)) = lsV g (agL i as)
  | [], _ => rfl
  | v :: vs, i => by
    show (i, toV g v) :: lv_args _ _ = (i, toV g v) :: lsV g _
    rw [← agL_ok g vs]
    congr 2
    rcases v with x | x | x <;> rfl
def wdL (as : List MV) : Nat := (as.map (fun v => if cat2 v = true then 2 else 1)).sum
theorem wdL_sl (g : GG) : ∀ as : List MV, (lg_sl (as.map (toV g))).length = wdL as
  | [] => rfl
  | v :: vs => by
    have ih := wdL_sl g vs
    have e : lg_sl ((v :: vs).map (toV g)) = lg_sl [toV g v] ++ lg_sl (vs.map (toV g)) := by simp [lg_sl]
    rw [e, List.length_append, ih]
    show _ = (if cat2 v = true then 2 else 1) + wdL vs
    congr 1
    rcases v with x | x | x <;> rfl
theorem wdL_cat (g : GG) : ∀ as : List MV, ((stV g as).map (fun v => v.category)).sum = wdL as
  | [] => rfl
  | v :: vs => by
    have ih := wdL_cat g vs
    show (toV g v).category + ((stV g vs).map (fun v => v.category)).sum = (if cat2 v = true then 2 else 1) + wdL vs
    rw [ih]
    congr 1
    rcases v with x | x | x <;> rfl
/-- a method's contract out of a walk from its beginning -/
theorem ME_of {g : GG} {d : Nat} {M : MD} {as : List MV} {σ : St} {Q : MV → St → Prop} (k : VM g d M Q 0 (agL 0 as) [] σ) (hp : plainName M.1.cls = true := by decide) (hw : Nat.ble (wdL as) M.2.2.1 = true := by rfl) : ME g d M as σ Q := by
  intro hA
  refine Met.ofW (cc := M.2.1) (maxL := M.2.2.1) (ret := M.2.2.2) hp rfl ?_
  intro p e s m args below meth c s₁ B hml hv
  obtain ⟨rfl, hP, hK, hN⟩ := hv
  have hts := atoms_spec (ws := wsM M) B.pre
  have hts2 : ∀ w ∈ tblU, w.before ((as.map (toV g)).toArray) s = true := NW_hts (fun w hw => hts w (List.mem_cons_of_mem _ hw)) hN
  rw [lg_entry_eq]
  have hl := lv_entry (as.map (toV g)) (n := M.2.2.1) (by rw [wdL_sl]; exact Nat.le_of_ble_eq_true hw)
  rw [agL_ok] at hl
  exact k p e s m _ below meth c s.heap [] _ ⟨B.exec, B.bytes, B.returns, hml, findClass_of_methodNamed B.named, hts2, B.notSynchronized, hK, ⟨hA, fun j hj => ⟨j, hj, rfl⟩⟩, trivial⟩ hP va_S.rf hl
theorem FB_M (g : GG) (as : List MV) (σ : St) : FrameBlind (PcM g as σ) := by
  intro a U f mk h
  obtain ⟨h1, h2, h3, h4⟩ := h
  exact ⟨h1, h2, va_K.moved (u := U) (U := U.calling f mk a) (Vm.Alike.refl U.vm) h3, NW_same (u := U) (U := U.calling f mk a) rfl h4⟩
theorem Pc_M {g : GG} {as : List MV} {σ : St} {H : Heap} {s : State} {args : Array Value} (hP : va_P g.2.1 classes (WS g σ) H) (hK : va_K g.2.1 classes (tysG g) s) (hts : ∀ w ∈ tblU, w.before args s = true) : ∀ U : State, U.heap = H → s.WarmedH U.vm → PcM g as σ (as.map (toV g)).toArray U :=
  fun U hU hW => ⟨rfl, by rw [hU]; exact hP, va_K.moved hW.alike hK, NW_warm hW hts⟩
theorem callG {g : GG} {p : Program} {e : Env} {R : Room} {s : State} {m : MethodId} {args : Array Value} {below : List Frame} {meth : Method} {c : Code} {H H0 : Heap} {locs : List Loc} {kc ks : Nat} {Z : State → Prop} {pc : Nat} {ls : Array Slot} {st0 rest : List Value} {rt : Option FieldType} {Q : MV → St → Prop} {a : Array Value} {A0 : Nat → Prop}
    (hr : va_Run p g.1 e R s m args below meth c H locs kc ks 0 0 (F0 m pc ls st0) rest (QcM g rt Q a) (AA g)) (hS : va_S A0 H0 H locs) (hA : ∀ q, AA g q → A0 q)
    (kk : ∀ (r : MV) (σ' : St) (H1 : Heap) (locs1 : List Loc), Q r σ' → va_P g.2.1 classes (WS g σ') H1 → va_S A0 H0 H1 locs1 → W p g.1 e R s m args below meth c H1 locs1 kc ks Z (F0 m (pc + 3) ls ((rvM g rt r).toList ++ rest))) : W p g.1 e R s m args below meth c H locs kc ks Z (F0 m pc ls st0) := by
  intro T hT X
  obtain ⟨v, st₀, t, T', L, h0, X', hL, e1, e2, ⟨⟨r, σ', hv, hq, hp⟩, hz, hk⟩, st⟩ := hr T hT X
  cases hv
  rw [h0] at hz hk
  obtain ⟨t2, a1, b1⟩ := kk r σ' T'.heap (locs ++ L) hq (by rw [e1]; exact hp)
    ⟨Nat.le_trans hS.1 (by rw [e1]; exact hz), fun q h1 h2 => by rw [e1, hk q (Nat.lt_of_lt_of_le h1 hS.1) (fun z => h2 (hA q z))]; exact hS.2.1 q h1 h2, fun q hq => by
      rcases List.mem_append.mp hq with h | h
      · exact hS.2.2 q h
      · exact hA _ (hL q h)⟩ T' rfl X'
  exact ⟨t2, st t2 a1, b1⟩
/-- what the tables hold of a method that is called -/
def MC (Z : MD) (n : Nat) : Prop := ∃ i4 i5 : Nat, Wd i4 (.initialized Z.1.cls) ∧ Wd i5 (.code Z.1 Z.2.1 Z.2.2.1 Z.2.2.2) ∧ (Z.1.cls ≠ "java/lang/invoke/MethodHandle" ∧ Z.1.cls ≠ "java/lang/invoke/VarHandle" ∧ (parseMethodDescriptor Z.1.desc).map (fun d => d.parameters.length) = some n) ∧ Z.2.2.1 ≤ 20
def MV1 (own : String) (idx : Nat) (Z : MD) (n : Nat) : Prop := ∃ i1 i2 i3 : Nat, Wd i1 (.methodLink own idx Z.1) ∧ Wd i2 (.instanceMethod Z.1) ∧ Wd i3 (.selects Z.1.cls Z.1 Z.1) ∧ MC Z n
def MS1 (own : String) (idx : Nat) (Z : MD) (n : Nat) : Prop := ∃ i1 i2 : Nat, (Wd i1 (.methodLink own idx Z.1) ∨ Wd i1 (.methodLinkNest own idx Z.1 "FaceGlass")) ∧ Wd i2 (.static Z.1) ∧ MC Z n
theorem wsM_good {Z : MD} {i : Nat} (h : Wd i (.code Z.1 Z.2.1 Z.2.2.1 Z.2.2.2)) : GoodIn tblU (wsM Z) := by
  intro w hw
  rcases List.mem_cons.mp hw with rfl | hw
  · exact ⟨h.U, good_of_word rfl⟩
  · exact ⟨tblG_U w hw, good_of_word (List.mem_filter.mp hw).2⟩
def ocl (j : Nat) : Option String := match shp j with
  | .inr q => (classes[q.1]?).map (fun r => r.1)
  | .inl _ => none
def rl (rt : Option FieldType) (r : MV) : List MV := match rt with
  | none => []
  | some _ => [r]
theorem rl_ok (g : GG) (rt : Option FieldType) (r : MV) (st : List MV) : (rvM g rt r).toList ++ stV g st = stV g (rl rt r ++ st) := by
  cases rt <;> rfl
def rok (R : Room) (kc ks d : Nat) : Prop := d + 1 ≤ R.frames ∧ 40 * d + 40 ≤ R.locals ∧ kc ≤ R.cells ∧ ks ≤ R.slots
theorem rok_D (d : Nat) : rok (rmD (d + 1)) 0 0 d := ⟨Nat.le_refl _, by show 40 * d + 40 ≤ 40 * (d + 1); omega, Nat.le_refl _, Nat.le_refl _⟩
section CALL
variable {g : GG} {R : Room} {kc ks : Nat} {ZZ : List Frame → Array Value → State → State → Prop} {AF : State → Nat → Prop} {EX : State → Prop} {M : MD} {pc : Nat} {ls : List (Nat × MV)} {st st0 : List MV} {σ : St}
theorem recvM {j : Nat} {C : String} {s : State} {H : Heap} (hj : ocl j = some C) (hK : va_K g.2.1 classes (tysG g) s) (hP : va_P g.2.1 classes (WS g σ) H) : ∃ cell : Cell, H[g.2.2.1 j]? = some cell ∧ cell.vm.isStatics = false ∧ s.vm.findClass C = some cell.cls := by
  unfold ocl at hj
  cases hs : shp j with
  | inl n => rw [hs] at hj; cases hj
  | inr q =>
    rw [hs] at hj
    obtain ⟨ci, l⟩ := q
    dsimp only at hj
    cases hc : classes[ci]? with
    | none => rw [hc] at hj; cases hj
    | some r =>
      rw [hc] at hj
      cases hj
      obtain ⟨hl, hcel⟩ := cel_o (g := g) hs (σ j)
      exact va_recv hK hP hc (q0 := j) (fs := fvs g l (σ j)) (by rw [WS_at g σ hl, hcel])
theorem VE_callV {idx d j n : Nat} {Z : MD} (as : List MV) (hd : decode M.2.1 pc = .ok (.invokevirtual idx, 3)) (ml : MV1 M.1.cls idx Z n) (hM : ME g d Z (vR j :: as) σ (fun r σ' => VE g R kc ks ZZ AF EX M (pc + 3) ls (rl Z.2.2.2 r ++ st) σ')) (hR : rok R kc ks d) (hj : ocl j = some Z.1.cls := by rfl) (hn : as.length = n := by rfl) (hst : as.reverse ++ vR j :: st = st0 := by rfl) (hw : Nat.ble (wdL st) 8 = true := by rfl) : VE g R kc ks ZZ AF EX M pc ls st0 σ := by
  subst hst
  intro p e s m args below meth c H locs lA C hP hS hl
  obtain ⟨i1, i2, i3, w1, w2, w3, i4, i5, w4, w5, hdd, hmx⟩ := ml
  have hts := C.2.2.2.2.2.1
  have hK := C.2.2.2.2.2.2.2.1
  have hAp := C.2.2.2.2.2.2.2.2.1
  have hG : GoodIn tblU (wsV M.1.cls idx Z.1.cls Z.1 (wsM Z)) := by
    intro w hw
    rcases List.mem_append.mp hw with h | h
    · simp only [List.mem_cons, List.not_mem_nil, or_false] at h
      rcases h with rfl | rfl | rfl | rfl
      · exact ⟨w1.U, good_of_word rfl⟩
      · exact ⟨w2.U, good_of_word rfl⟩
      · exact ⟨w3.U, good_of_word rfl⟩
      · exact ⟨w4.U, good_of_word rfl⟩
    · exact wsM_good w5 w h
  refine callG (va_runV (As := stV g as) (rest := stV g st) ⟨C.1, C.2.1, C.2.2.2.1, C.2.2.2.2.1, hts⟩ (hM hAp.1) (cwV n hts hG rfl rfl rfl ⟨rfl, hdd⟩ ⟨hR.1, ?_⟩) ⟨FB_M g _ σ, recvM hj hK hP, fun U hU hW => Pc_M hP hK hts U hU hW⟩ rfl (by rw [List.length_map]; exact hn) hl.1 (by simp [stV, toV]) (lv_room (by rw [wdL_cat]; exact Nat.le_of_ble_eq_true hw)) hd ⟨hR.2.2.1, hR.2.2.2⟩) hS (fun q hq => ?_) (fun r σ' H1 locs1 hk hP1 hS1 => ?_)
  · show 8 + (Z.2.2.1 + 11) + 40 * d ≤ R.locals
    have := hR.2.1
    omega
  · obtain ⟨j, hj, rfl⟩ := hq
    exact hAp.2 j hj
  · rw [rl_ok]
    exact hk p e s m args below meth c H1 locs1 lA C hP1 hS1 hl
theorem VE_callS {idx d n : Nat} {Z : MD} (as : List MV) (hd : decode M.2.1 pc = .ok (.invokestatic idx, 3)) (ml : MS1 M.1.cls idx Z n) (hM : ME g d Z as σ (fun r σ' => VE g R kc ks ZZ AF EX M (pc + 3) ls (rl Z.2.2.2 r ++ st) σ')) (hR : rok R kc ks d) (hn : as.length = n := by rfl) (hst : as.reverse ++ st = st0 := by rfl) (hw : Nat.ble (wdL st) 8 = true := by rfl) : VE g R kc ks ZZ AF EX M pc ls st0 σ := by
  subst hst
  intro p e s m args below meth c H locs lA C hP hS hl
  obtain ⟨i1, i2, w1, w2, i4, i5, w4, w5, hdd, hmx⟩ := ml
  have hts := C.2.2.2.2.2.1
  have hK := C.2.2.2.2.2.2.2.1
  have hAp := C.2.2.2.2.2.2.2.2.1
  have hlo : 8 + (Z.2.2.1 + 11) + (rmD d).locals ≤ R.locals := by
    show 8 + (Z.2.2.1 + 11) + 40 * d ≤ R.locals
    have := hR.2.1
    omega
  have fin : ∀ (r : MV) (σ' : St) (H1 : Heap) (locs1 : List Loc), VE g R kc ks ZZ AF EX M (pc + 3) ls (rl Z.2.2.2 r ++ st) σ' → va_P g.2.1 classes (WS g σ') H1 → va_S (AF s) s.heap H1 locs1 → W p g.1 e R s m args below meth c H1 locs1 kc ks (ZZ below args s) (F0 m (pc + 3) lA ((rvM g Z.2.2.2 r).toList ++ stV g st)) := by
    intro r σ' H1 locs1 hk hP1 hS1
    rw [rl_ok]
    exact hk p e s m args below meth c H1 locs1 lA C hP1 hS1 hl
  have hAF : ∀ q, AA g q → AF s q := by
    intro q hq
    obtain ⟨j, hj, rfl⟩ := hq
    exact hAp.2 j hj
  have hstk : stV g (as.reverse ++ st) = (stV g as).reverse ++ stV g st := by simp [stV]
  rcases w1 with w1 | w1
  · exact callG (va_runS (As := stV g as) (rest := stV g st) ⟨C.1, C.2.1, C.2.2.2.1, C.2.2.2.2.1, hts⟩ (hM hAp.1) ⟨callB_of n hts (wsM_good w5) rfl rfl rfl (hts _ w4.U) (hts _ w1.U) hdd ⟨hR.1, hlo⟩, hts _ w2.U⟩ ⟨FB_M g _ σ, fun U hU hW => Pc_M hP hK hts U hU hW⟩ rfl (by rw [List.length_map]; exact hn) hl.1 hstk (lv_room (by rw [wdL_cat]; exact Nat.le_of_ble_eq_true hw)) hd ⟨hR.2.2.1, hR.2.2.2⟩) hS hAF fin
  · exact callG (va_runSN (As := stV g as) (rest := stV g st) ⟨C.1, C.2.1, C.2.2.2.1, C.2.2.2.2.1, hts⟩ (hM hAp.1) ⟨va_cnB n hts (wsM_good w5) rfl rfl rfl (va_Nw.of rfl (hts _ w1.U)) (hts _ w4.U) hdd ⟨hR.1, hlo⟩, hts _ w2.U, trivial⟩ ⟨FB_M g _ σ, fun U hU hW => Pc_M hP hK hts U hU hW⟩ rfl (by rw [List.length_map]; exact hn) hl.1 hstk (lv_room (by rw [wdL_cat]; exact Nat.le_of_ble_eq_true hw)) hd ⟨hR.2.2.1, hR.2.2.2⟩) hS hAF fin
end CALL
