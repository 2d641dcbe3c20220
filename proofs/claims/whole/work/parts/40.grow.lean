/-! THE CONSTRUCTORS: the same judgement over a list of cells that grows -/
abbrev GI : Type := Launch × va_G × ClassId × ClassId
abbrev tysI (E : GI) : List (ClassId × FieldType) := [(E.2.2.1, .int), (E.2.2.2, .object RX3)]
def CI (E : GI) (A : Nat → Prop) (EX : State → Prop) (M : MD) (p : Program) (s : State) (m : MethodId) (args : Array Value) (meth : Method) (c : Code) : Prop :=
  p.tables.exec = Jvm.exec ∧ c.code = M.2.1 ∧ meth.sig.returnType = M.2.2.2 ∧ c.maxLocals = M.2.2.1 ∧ s.vm.findClass M.1.cls = some m.cls ∧ (∀ w ∈ tblU, w.before args s = true) ∧ meth.locks = false ∧ va_K E.2.1 classes (tysI E) s ∧ (∀ q, s.heap.size ≤ q → A q) ∧ va_AO RX3 s ∧ (M.1.name = "<init>" → meth.name = "<init>") ∧ EX s
def VI (E : GI) (R : Room) (kc ks : Nat) (ZZ : List Frame → Array Value → State → State → Prop) (AF : State → Nat → Prop) (EX : State → Prop) (M : MD) (pc : Nat) (ls : List (Nat × Value)) (st : List Value) (ws : va_W) : Prop :=
  ∀ (p : Program) (e : Env) (s : State) (m : MethodId) (args : Array Value) (below : List Frame) (meth : Method) (c : Code) (H : Heap) (locs : List Loc) (lA : Array Slot),
    CI E (AF s) EX M p s m args meth c → va_P E.2.1 classes ws H → va_D (AF s) ws → va_S (AF s) s.heap H locs → lv_has lA M.2.2.1 ls →
    W p E.1 e R s m args below meth c H locs kc ks (ZZ below args s) (F0 m pc lA st)
def FI (own : String) (idx ci k : Nat) : Prop := ∃ (C : String) (T : u_T) (N i : Nat), classes[ci]? = some (C, T, N) ∧ k < N ∧ Wd i (.fieldLink own idx C (T k).2.1 (T k).2.2.1)
/-- what the tables hold of a class that is made, and the values that its fields begin with -/
def NL (own : String) (idx ci : Nat) (fs : List Value) : Prop := ∃ (C : String) (T : u_T) (N i1 i2 i3 : Nat) (ty : Nat → FieldType), classes[ci]? = some (C, T, N) ∧ Wd i1 (.classLink own idx C) ∧ Wd i2 (.instantiable C N) ∧ Wd i3 (.initialized C) ∧ (∀ k, k < N → parseFieldDescriptor (T k).2.2.1 = some (ty k)) ∧ (∀ j, j < N → defaultValue (ty j) = vp_V fs j) ∧ fs.length = N
def IL (own : String) (idx : Nat) (Z : MD) : Prop := ∃ i1 i2 : Nat, (Wd i1 (.methodLink own idx Z.1) ∨ Wd i1 (.methodLinkNest own idx Z.1 "FaceGlass")) ∧ Wd i2 (.instanceMethod Z.1) ∧ MC Z 0 ∧ Z.1.name = "<init>" ∧ Z.2.2.2 = none
def rmI (d mc ms : Nat) : Room := { frames := d, cells := mc, slots := ms, locals := 40 * d }
def PcI (E : GI) (h0 sz : Nat) (w0 : va_E) : Array Value → State → Prop := va_Pc [.ref h0] (fun U => U.heap.size = sz ∧ va_P E.2.1 classes [(h0, w0)] U.heap ∧ va_K E.2.1 classes (tysI E) U ∧ NW U ∧ va_AO RX3 U)
def QcI (E : GI) (A : Nat → Prop) (wf : (Nat → Nat) → va_W) : Array Value → State → Outcome → State → Prop := va_Qv (fun _ : Nat → Nat => True) (fun u t => va_P E.2.1 classes (wf u) t.heap ∧ va_D A (wf u)) A
def MI (E : GI) (d : Nat) (M : MD) (mc ms h0 : Nat) (w0 : va_E) (wf : (Nat → Nat) → va_W) : Prop := ∀ sz : Nat, Met E.1 M.1 (wsM M) (rmI d mc ms) (PcI E h0 sz w0) (QcI E (va_A [(h0, w0)] sz) wf) mc ms (va_A [(h0, w0)] sz)
abbrev AFI (h0 : Nat) (w0 : va_E) : State → Nat → Prop := fun s => va_A [(h0, w0)] s.heap.size
def zI (E : GI) (mc ms h0 : Nat) (w0 : va_E) (wf : (Nat → Nat) → va_W) : List Frame → Array Value → State → State → Prop := fun below a s => MQ below (QcI E (AFI h0 w0 s) wf) a s mc ms (AFI h0 w0 s)
theorem fm_of {α β : Type} (f : α → Option β) : ∀ (is : List α) (w : List β), is.map f = w.map some → is.filterMap f = w
  | [], w, h => by
    cases w with
    | nil => rfl
    | cons x w => simp at h
  | a :: is, w, h => by
    cases w with
    | nil => simp at h
    | cons x w =>
      rw [List.map_cons, List.map_cons, List.cons.injEq] at h
      rw [List.filterMap_cons, h.1]
      show x :: is.filterMap f = x :: w
      rw [fm_of f is w h.2]
section GROW
variable {E : GI} {R : Room} {kc ks : Nat} {ZZ : List Frame → Array Value → State → State → Prop} {AF : State → Nat → Prop} {EX : State → Prop} {M : MD} {pc : Nat} {ls : List (Nat × Value)} {st : List Value} {ws : va_W}
theorem VI_w {ws' : va_W} {kc' ks' : Nat} (h : ws = ws') (k : VI E R kc' ks' ZZ AF EX M pc ls st ws') (h1 : kc = kc' := by rfl) (h2 : ks = ks' := by rfl) : VI E R kc ks ZZ AF EX M pc ls st ws := by
  subst h; subst h1; subst h2; exact k
theorem VI_iconst {n : Int} (v : Int32) (hd : decode M.2.1 pc = .ok (.iconst n, 1)) (k : VI E R kc ks ZZ AF EX M (pc + 1) ls (.int v :: st) ws) (hv : Int32.ofInt n = v := by rfl) : VI E R kc ks ZZ AF EX M pc ls st ws := by
  intro p e s m args below meth c H locs lA C hP hD hS hl
  exact lv_iconst C.1 C.2.1 hd hv (k p e s m args below meth c H locs lA C hP hD hS hl)
theorem VI_bipush {n : Int} (v : Int32) (hd : decode M.2.1 pc = .ok (.bipush n, 2)) (k : VI E R kc ks ZZ AF EX M (pc + 2) ls (.int v :: st) ws) (hv : (Int8.ofInt n).toInt32 = v := by rfl) : VI E R kc ks ZZ AF EX M pc ls st ws := by
  intro p e s m args below meth c H locs lA C hP hD hS hl
  exact lv_bipush C.1 C.2.1 hd hv (k p e s m args below meth c H locs lA C hP hD hS hl)
theorem VI_sipush {n : Int} (v : Int32) (hd : decode M.2.1 pc = .ok (.sipush n, 3)) (k : VI E R kc ks ZZ AF EX M (pc + 3) ls (.int v :: st) ws) (hv : (Int16.ofInt n).toInt32 = v := by rfl) : VI E R kc ks ZZ AF EX M pc ls st ws := by
  intro p e s m args below meth c H locs lA C hP hD hS hl
  exact lv_sipush C.1 C.2.1 hd hv (k p e s m args below meth c H locs lA C hP hD hS hl)
theorem VI_iload_n {i : Fin 4} {x : Int32} (q : Nat) (hd : decode M.2.1 pc = .ok (.iload_n i, 1)) (k : VI E R kc ks ZZ AF EX M (pc + 1) ls (.int x :: st) ws) (h : ls[q]? = some ((i : Nat), .int x) := by rfl) : VI E R kc ks ZZ AF EX M pc ls st ws := by
  intro p e s m args below meth c H locs lA C hP hD hS hl
  exact lv_iload_n C.1 C.2.1 hd rfl (lv_at hl q h) (k p e s m args below meth c H locs lA C hP hD hS hl)
theorem VI_aload_n {i : Fin 4} {x : Nat} (q : Nat) (hd : decode M.2.1 pc = .ok (.aload_n i, 1)) (k : VI E R kc ks ZZ AF EX M (pc + 1) ls (.ref x :: st) ws) (h : ls[q]? = some ((i : Nat), .ref x) := by rfl) : VI E R kc ks ZZ AF EX M pc ls st ws := by
  intro p e s m args below meth c H locs lA C hP hD hS hl
  exact lv_aload_n C.1 C.2.1 hd rfl (lv_at hl q h) (k p e s m args below meth c H locs lA C hP hD hS hl)
theorem VI_istore_n {i : Fin 4} {x : Int32} {ls' : List (Nat × Value)} (hd : decode M.2.1 pc = .ok (.istore_n i, 1)) (k : VI E R kc ks ZZ AF EX M (pc + 1) ls' st ws) (hn : (i : Nat) < M.2.2.1 := by decide) (h : (((i : Nat), Value.int x) :: ls.filter (fun q => !(q.1 == (i : Nat)) && !(q.1 + 1 == (i : Nat) && q.2.category == 2))) = ls' := by rfl) : VI E R kc ks ZZ AF EX M pc ls (.int x :: st) ws := by
  intro p e s m args below meth c H locs lA C hP hD hS hl
  exact lv_istore_n C.1 C.2.1 hd rfl hl hn h (fun l1 h1 => k p e s m args below meth c H locs l1 C hP hD hS h1)
theorem VI_astore_n {i : Fin 4} {x : Nat} {ls' : List (Nat × Value)} (hd : decode M.2.1 pc = .ok (.astore_n i, 1)) (k : VI E R kc ks ZZ AF EX M (pc + 1) ls' st ws) (hn : (i : Nat) < M.2.2.1 := by decide) (h : (((i : Nat), Value.ref x) :: ls.filter (fun q => !(q.1 == (i : Nat)) && !(q.1 + 1 == (i : Nat) && q.2.category == 2))) = ls' := by rfl) : VI E R kc ks ZZ AF EX M pc ls (.ref x :: st) ws := by
  intro p e s m args below meth c H locs lA C hP hD hS hl
  exact lv_astore_n C.1 C.2.1 hd rfl hl hn h (fun l1 h1 => k p e s m args below meth c H locs l1 C hP hD hS h1)
theorem VI_iinc {i : Nat} {n : Int} {x : Int32} (q : Nat) (v : Int32) {ls' : List (Nat × Value)} (hd : decode M.2.1 pc = .ok (.iinc i n, 3)) (k : VI E R kc ks ZZ AF EX M (pc + 3) ls' st ws) (hq : ls[q]? = some (i, .int x) := by rfl) (hv : x + Int32.ofInt n = v := by rfl) (hn : i < M.2.2.1 := by decide) (h : ((i, Value.int v) :: ls.filter (fun q => !(q.1 == i) && !(q.1 + 1 == i && q.2.category == 2))) = ls' := by rfl) : VI E R kc ks ZZ AF EX M pc ls st ws := by
  intro p e s m args below meth c H locs lA C hP hD hS hl
  exact lv_iinc C.1 C.2.1 hd hl hq hv hn h (fun l1 h1 => k p e s m args below meth c H locs l1 C hP hD hS h1)
theorem VI_dup {a : Value} (hd : decode M.2.1 pc = .ok (.dup, 1)) (k : VI E R kc ks ZZ AF EX M (pc + 1) ls (a :: a :: st) ws) (h : a.category = 1 := by rfl) : VI E R kc ks ZZ AF EX M pc ls (a :: st) ws := by
  intro p e s m args below meth c H locs lA C hP hD hS hl
  exact lv_dup C.1 C.2.1 hd h (k p e s m args below meth c H locs lA C hP hD hS hl)
theorem VI_goto {off : Int} (tgt : Nat) (hd : decode M.2.1 pc = .ok (.goto off, 3)) (k : VI E R kc ks ZZ AF EX M tgt ls st ws) (ht : (pc : Int) + off = (tgt : Int) := by decide) : VI E R kc ks ZZ AF EX M pc ls st ws := by
  intro p e s m args below meth c H locs lA C hP hD hS hl
  exact lv_goto C.1 C.2.1 hd ht (k p e s m args below meth c H locs lA C hP hD hS hl)
theorem VI_icmp_ge {x y : Int32} {off : Int} (tgt : Nat) (hd : decode M.2.1 pc = .ok (.if_icmp .ge off, 3)) (kt : y ≤ x → VI E R kc ks ZZ AF EX M tgt ls st ws) (kf : ¬ y ≤ x → VI E R kc ks ZZ AF EX M (pc + 3) ls st ws) (ht : (pc : Int) + off = (tgt : Int) := by decide) : VI E R kc ks ZZ AF EX M pc ls (.int y :: .int x :: st) ws := by
  intro p e s m args below meth c H locs lA C hP hD hS hl
  exact lv_icmp_ge C.1 C.2.1 hd ht (fun h => kt h p e s m args below meth c H locs lA C hP hD hS hl) (fun h => kf h p e s m args below meth c H locs lA C hP hD hS hl)
theorem VI_get {idx ci k a : Nat} {fs : List Value} (q0 : Nat) (v : Value) (hd : decode M.2.1 pc = .ok (.getfield idx, 3)) (hf : FI M.1.cls idx ci k) (kk : VI E R kc ks ZZ AF EX M (pc + 3) ls (v :: st) ws) (he : ws[q0]? = some (a, .inr (ci, fs)) := by rfl) (hv : fs[k]? = some v := by rfl) : VI E R kc ks ZZ AF EX M pc ls (.ref a :: st) ws := by
  intro p e s m args below meth c H locs lA C hP hD hS hl
  obtain ⟨Cn, T, N, i, hc, hk, hw⟩ := hf
  obtain ⟨hin, -, -, hown⟩ := cls_ok hc
  have hts := C.2.2.2.2.2.1
  exact va_get (D := E.2.1) (tys := tysI E) C.1 C.2.1 hts hin C.2.2.2.2.1 C.2.2.2.2.2.2.2.1 hP q0 he hc k hk (hts _ hw.U) (fun x h => by rw [hown k hk] at h; exact h) hv hd (kk p e s m args below meth c H locs lA C hP hD hS hl)
theorem VI_put {idx ci k a : Nat} {fs : List Value} {v : Value} (q0 : Nat) (ty1 : FieldType) (hd : decode M.2.1 pc = .ok (.putfield idx, 3)) (hf : FI M.1.cls idx ci k) (kk : VI E R kc ks ZZ AF EX M (pc + 3) ls st (ws.set q0 (a, .inr (ci, fs.set k v)))) (he : ws[q0]? = some (a, .inr (ci, fs)) := by rfl) (hd1 : ((classes[ci]?).bind (fun q => parseFieldDescriptor (q.2.1 k).2.2.1)) = some ty1 := by rfl) (hl1 : Nat.blt k fs.length = true := by rfl) (hn1 : narrow ty1 v = v := by rfl) (hf1 : fits ty1 v = true := by rfl) (hi : M.1.name = "<init>" := by rfl) (hc1 : (classes[ci]?).map (fun q => q.1) = some M.1.cls := by rfl) : VI E R kc ks ZZ AF EX M pc ls (v :: .ref a :: st) ws := by
  intro p e s m args below meth c H locs lA C hP hD hS hl
  obtain ⟨Cn, T, N, i, hc, hk, hw⟩ := hf
  obtain ⟨hin, ⟨ty, hty⟩, hnm, hown⟩ := cls_ok hc
  have hts := C.2.2.2.2.2.1
  have hK := C.2.2.2.2.2.2.2.1
  rw [hc] at hd1 hc1
  have hd2 : parseFieldDescriptor (T k).2.2.1 = some ty1 := hd1
  have hc2 : Cn = M.1.cls := Option.some.inj hc1
  have hl2 : k < fs.length := by simpa [Nat.blt_eq] using hl1
  have kk' : ∀ (H1 : Heap) (locs1 : List Loc), va_P E.2.1 classes (ws.set q0 (a, .inr (ci, fs.set k v))) H1 → va_D (AF s) (ws.set q0 (a, .inr (ci, fs.set k v))) → va_S (AF s) s.heap H1 locs1 → W p E.1 e R s m args below meth c H1 locs1 kc ks (ZZ below args s) (F0 m (pc + 3) lA st) := fun H1 locs1 hP1 hD1 hS1 => kk p e s m args below meth c H1 locs1 lA C hP1 hD1 hS1 hl
  cases hfin : (T k).2.2.2 with
  | false => exact va_put (D := E.2.1) (tys := tysI E) (ty := ty1) C.1 C.2.1 hts hin ty hty hnm C.2.2.2.2.1 hK hP hD hS q0 he hc k hk (hts _ hw.U) (fun x h => by rw [hown k hk] at h; exact h) hfin hd2 hn1 hf1 hl2 hd kk'
  | true => exact va_putF (D := E.2.1) (tys := tysI E) (ty := ty1) C.1 C.2.1 hts hin ty hty hnm C.2.2.2.2.1 hK hP hD hS q0 he hc k hk (hts _ hw.U) (fun x h => by rw [hown k hk] at h; exact h) hfin (C.2.2.2.2.2.2.2.2.2.2.1 hi) (by rw [hown k hk, hc2]) hd2 hn1 hf1 hl2 hd kk'
theorem wd_arrI : Wd 84 (.arrayClass .int) := ⟨by decide +kernel, rfl⟩
theorem VI_newa {n : Int32} (N : Nat) (hd : decode M.2.1 pc = .ok (.newarray .int, 2)) (k : ∀ q : Nat, VI E R (kc + 1) (ks + N) ZZ AF EX M (pc + 2) ls (.ref q :: st) (ws ++ [(q, .inl (E.2.2.1, N, .inl (fun _ => 0)))])) (hn : ¬ n < 0 := by decide) (hN : n.toNatClampNeg = N := by decide) (hb : N * 4 ≤ 536870912 := by decide) (hc : kc + 1 ≤ R.cells := by decide) (hs : ks + N ≤ R.slots := by decide) : VI E R kc ks ZZ AF EX M pc ls (.int n :: st) ws := by
  intro p e s m args below meth c H locs lA C hP hD hS hl
  have hK := C.2.2.2.2.2.2.2.1
  refine va_newa (atype := .int) (ty := .int) (N' := N) (a0 := (N, .inl (fun _ => 0))) C.1 C.2.1 (C.2.2.2.2.2.1 _ wd_arrI.U) rfl hK hP hD hS C.2.2.2.2.2.2.2.2.1 (fun _ => rfl) hn hN hb hc hs hd (fun q cA H1 hK1 hP1 hD1 hS1 => ?_)
  have h1 : s.vm.findClass ("[" ++ FieldType.int.toString) = some cA := (hK1.2 2 (cA, .int) rfl).2
  have h2 : s.vm.findClass ("[" ++ FieldType.int.toString) = some E.2.2.1 := (hK.2 0 (E.2.2.1, .int) rfl).2
  have h3 : cA = E.2.2.1 := Option.some.inj (h1.symm.trans h2)
  subst h3
  exact k q p e s m args below meth c H1 locs lA C hP1 hD1 hS1 hl
theorem VI_newq {n : Int32} {idx : Nat} (N i1 : Nat) (hd : decode M.2.1 pc = .ok (.anewarray idx, 3)) (hw : Wd i1 (.classLink M.1.cls idx RX3)) (k : ∀ q : Nat, VI E R (kc + 1) (ks + N) ZZ AF EX M (pc + 3) ls (.ref q :: st) (ws ++ [(q, .inl (E.2.2.2, N, .inr (.inr (.inr (.inr (fun _ => none))))))])) (hn : ¬ n < 0 := by decide) (hN : n.toNatClampNeg = N := by decide) (hb : N * 4 ≤ 536870912 := by decide) (hc : kc + 1 ≤ R.cells := by decide) (hs : ks + N ≤ R.slots := by decide) : VI E R kc ks ZZ AF EX M pc ls (.int n :: st) ws := by
  intro p e s m args below meth c H locs lA C hP hD hS hl
  have hK := C.2.2.2.2.2.2.2.1
  refine va_newq (C := RX3) (N' := N) C.1 C.2.1 C.2.2.2.2.1 (C.2.2.2.2.2.1 _ hw.U) C.2.2.2.2.2.2.2.2.2.1 hK hP hD hS C.2.2.2.2.2.2.2.2.1 hn hN hb hc hs hd (fun q cA H1 hK1 hP1 hD1 hS1 => ?_)
  obtain ⟨_, _, _, _, _, h1⟩ := (hK1.2 2 (cA, .object RX3) rfl).2
  obtain ⟨_, _, _, _, _, h2⟩ := (hK.2 1 (E.2.2.2, .object RX3) rfl).2
  have h3 : cA = E.2.2.2 := Option.some.inj (h1.symm.trans h2)
  subst h3
  exact k q p e s m args below meth c H1 locs lA C hP1 hD1 hS1 hl
theorem VI_new {idx : Nat} (ci : Nat) (fs : List Value) (hd : decode M.2.1 pc = .ok (.new idx, 3)) (hw : NL M.1.cls idx ci fs) (k : ∀ q : Nat, VI E R (kc + 1) (ks + fs.length) ZZ AF EX M (pc + 3) ls (.ref q :: st) (ws ++ [(q, .inr (ci, fs))])) (hc : kc + 1 ≤ R.cells := by decide) (hs : ks + fs.length ≤ R.slots := by decide) : VI E R kc ks ZZ AF EX M pc ls st ws := by
  intro p e s m args below meth c H locs lA C hP hD hS hl
  obtain ⟨Cn, T, N, i1, i2, i3, ty, hcl, w1, w2, w3, hty, hfs, hN⟩ := hw
  subst hN
  obtain ⟨hin, -, -, -⟩ := cls_ok hcl
  have hts := C.2.2.2.2.2.1
  exact va_new (ci := ci) (fs := fs) (C := Cn) (T := T) (N := fs.length) C.1 C.2.1 hts hin ty hty C.2.2.2.2.1 (hts _ w1.U) (hts _ w2.U) (hts _ w3.U) C.2.2.2.2.2.2.2.1 hP hD hS C.2.2.2.2.2.2.2.2.1 hcl hfs hc hs hd (fun q H1 hP1 hD1 hS1 => k q p e s m args below meth c H1 locs lA C hP1 hD1 hS1 hl)
theorem VI_iast {i x : Int32} {a n : Nat} {f : Nat → Int32} (q0 : Nat) (hd : decode M.2.1 pc = .ok (.iastore, 1)) (kk : VI E R kc ks ZZ AF EX M (pc + 1) ls st (ws.set q0 (a, .inl (E.2.2.1, n, .inl (upd f i.toNatClampNeg x))))) (ha : ws[q0]? = some (a, .inl (E.2.2.1, n, .inl f)) := by rfl) (hin : vp_in i n := by unfold vp_in; decide) : VI E R kc ks ZZ AF EX M pc ls (.int x :: .int i :: .ref a :: st) ws := by
  intro p e s m args below meth c H locs lA C hP hD hS hl
  exact va_iast (tys := tysI E) C.1 C.2.1 C.2.2.2.2.2.2.2.1 hP hD hS q0 0 ha rfl hin hd (fun H1 locs1 hP1 hD1 hS1 => kk p e s m args below meth c H1 locs1 lA C hP1 hD1 hS1 hl)
theorem VI_aast {i : Int32} {a n v : Nat} {f : Nat → Option Nat} {vs : List Value} (q0 qk : Nat) (hd : decode M.2.1 pc = .ok (.aastore, 1)) (kk : VI E R kc ks ZZ AF EX M (pc + 1) ls st (ws.set q0 (a, .inl (E.2.2.2, n, .inr (.inr (.inr (.inr (va_up f i.toNatClampNeg (some v))))))))) (ha : ws[q0]? = some (a, .inl (E.2.2.2, n, .inr (.inr (.inr (.inr f))))) := by rfl) (hv : ws[qk]? = some (v, .inr (3, vs)) := by rfl) (hin : vp_in i n := by unfold vp_in; decide) : VI E R kc ks ZZ AF EX M pc ls (.ref v :: .int i :: .ref a :: st) ws := by
  intro p e s m args below meth c H locs lA C hP hD hS hl
  exact va_astq (tys := tysI E) (r := (RX3, TX3, 3)) C.1 C.2.1 C.2.2.2.2.2.2.2.1 hP hD hS q0 1 qk 3 ha rfl hv rfl hin hd (fun H1 locs1 hP1 hD1 hS1 => kk p e s m args below meth c H1 locs1 lA C hP1 hD1 hS1 hl)
theorem wd_objI : Wd 61 (.instanceMethod objectInit) := ⟨by decide +kernel, rfl⟩
theorem wd_objC : Wd 62 (.code objectInit object_method_1_code 1 none) := ⟨by decide +kernel, rfl⟩
theorem VI_objInit {idx x : Nat} (i1 : Nat) (hd : decode M.2.1 pc = .ok (.invokespecial idx, 3)) (hw : Wd i1 (.methodLink M.1.cls idx objectInit)) (k : VI E R kc ks ZZ AF EX M (pc + 3) ls st ws) (h1 : Nat.ble 1 R.frames = true := by rfl) (h2 : Nat.ble 40 R.locals = true := by rfl) (hw8 : Nat.ble ((st.map fun v => v.category).sum) 8 = true := by rfl) : VI E R kc ks ZZ AF EX M pc ls (.ref x :: st) ws := by
  intro p e s m args below meth c H locs lA C hP hD hS hl
  have hts := C.2.2.2.2.2.1
  have h2' : 40 ≤ R.locals := Nat.le_of_ble_eq_true h2
  have hz : 2 * (F0 m pc lA (.ref x :: st)).monitorRoom + (st.map fun v => v.category).sum ≤ 8 := lv_room (Nat.le_of_ble_eq_true hw8)
  refine W.objInit C.1 C.2.1 C.2.2.2.2.1 (hts _ hw.U) (hts _ wd_objI.U) (hts _ wd_objC.U) rfl (by rw [C.2.2.2.1]; exact hl.1) rfl hd (Nat.le_of_ble_eq_true h1) (by omega) ?_
  exact k p e s m args below meth c H locs lA C hP hD hS hl
theorem VI_vret {mc ms h0 : Nat} {w0 : va_E} {wf : (Nat → Nat) → va_W} (u : Nat → Nat) (is : List Nat) (hd : decode M.2.1 pc = .ok (.return_, 1)) (hs : is.map (fun i => ws[i]?) = (wf u).map some) (hn : va_nd is = true := by decide) (hr : M.2.2.2 = none := by rfl) (hk : kc = mc := by rfl) (hq : ks = ms := by rfl) : VI E R kc ks (zI E mc ms h0 w0 wf) (AFI h0 w0) EX M pc ls [] ws := by
  subst hk; subst hq
  intro p e s m args below meth c H locs lA C hP hD hS hl
  exact W.vret C.1 C.2.1 (by rw [C.2.2.1, hr]) (fun t ht hW => ⟨⟨u, rfl, trivial, by rw [ht]; exact hP.sub is (fm_of _ _ _ hs), hD.sub is hn hs⟩, hS.F ht⟩) hS.2.2 hd C.2.2.2.2.2.2.1
theorem MI_of {d mc ms h0 : Nat} {w0 : va_E} {wf : (Nat → Nat) → va_W} (k : VI E (rmI d mc ms) 0 0 (zI E mc ms h0 w0 wf) (AFI h0 w0) (fun _ => True) M 0 [(0, .ref h0)] [] [(h0, w0)]) (hp : plainName M.1.cls = true := by decide) (hw : Nat.ble 1 M.2.2.1 = true := by rfl) (hi : M.1.name = "<init>" := by rfl) : MI E d M mc ms h0 w0 wf := by
  intro sz
  refine Met.ofW (cc := M.2.1) (maxL := M.2.2.1) (ret := M.2.2.2) hp rfl ?_
  intro p e s m args below meth c s₁ B hml hv
  obtain ⟨rfl, rfl, hP, hK, hN, hO⟩ := hv
  have hts := atoms_spec (ws := wsM M) B.pre
  have hts2 : ∀ w ∈ tblU, w.before ([Value.ref h0].toArray) s = true := NW_hts (fun w hw => hts w (List.mem_cons_of_mem _ hw)) hN
  rw [lg_entry_eq]
  have hl := lv_entry [Value.ref h0] (n := M.2.2.1) (Nat.le_of_ble_eq_true hw)
  refine k p e s m _ below meth c s.heap [] _ ⟨B.exec, B.bytes, B.returns, hml, findClass_of_methodNamed B.named, hts2, B.notSynchronized, hK, fun q h => Or.inr h, hO, fun h => (name_of_methodNamed B.named B.method).1.trans h, trivial⟩ hP ⟨fun i j p q h1 h2 _ => ?_, fun k q h => va_A.in h⟩ va_S.rf hl
  have z1 := (List.getElem?_eq_some_iff.mp h1).1
  have z2 := (List.getElem?_eq_some_iff.mp h2).1
  simp at z1 z2
  omega
theorem FB_I (E : GI) (h0 sz : Nat) (w0 : va_E) : FrameBlind (PcI E h0 sz w0) := by
  intro a U f mk h
  obtain ⟨h1, h2, h3, h4, h5, h6⟩ := h
  exact ⟨h1, h2, h3, va_K.moved (u := U) (U := U.calling f mk a) (Vm.Alike.refl U.vm) h4, NW_same (u := U) (U := U.calling f mk a) rfl h5, va_AO.moved (u := U) (U := U.calling f mk a) (Vm.Alike.refl U.vm) h6⟩
theorem rng_map {α : Type} (wr : List α) (x : α) : (List.range wr.length).map (fun i => (wr ++ [x])[i]?) = wr.map some := by
  apply List.ext_getElem?
  intro i
  by_cases h : i < wr.length
  · rw [List.getElem?_map, List.getElem?_range h, List.getElem?_map]
    show some ((wr ++ [x])[i]?) = _
    rw [List.getElem?_append_left h, List.getElem?_eq_getElem h]
    rfl
  · rw [List.getElem?_eq_none (by simpa using Nat.not_lt.mp h), List.getElem?_eq_none (by simpa using Nat.not_lt.mp h)]
theorem VI_call {idx d mc ms q : Nat} {Z : MD} {w0 : va_E} {wf : (Nat → Nat) → va_W} {wr : va_W} (n : Nat) (hd : decode M.2.1 pc = .ok (.invokespecial idx, 3)) (il : IL M.1.cls idx Z) (hM : MI E d Z mc ms q w0 wf) (k : ∀ u : Nat → Nat, VI E R (kc + mc) (ks + ms) ZZ AF EX M (pc + 3) ls st (wr ++ wf u)) (hws : ws = wr ++ [(q, w0)] := by rfl) (hn : wr.length = n := by rfl) (hnd : va_nd (List.range n) = true := by decide) (h1 : Nat.ble (d + 1) R.frames = true := by rfl) (h2 : Nat.ble (40 * d + 40) R.locals = true := by rfl) (h3 : Nat.ble (kc + mc) R.cells = true := by rfl) (h4 : Nat.ble (ks + ms) R.slots = true := by rfl) (hw8 : Nat.ble ((st.map fun v => v.category).sum) 8 = true := by rfl) : VI E R kc ks ZZ AF EX M pc ls (.ref q :: st) ws := by
  subst hn; subst hws
  intro p e s m args below meth c H locs lA C hP hD hS hl
  obtain ⟨i1, i2, w1, w2, ⟨i4, i5, w4, w5, hdd, hmx⟩, hnm, hrt⟩ := il
  have hts := C.2.2.2.2.2.1
  have hK := C.2.2.2.2.2.2.2.1
  have hA := C.2.2.2.2.2.2.2.2.1
  have hO := C.2.2.2.2.2.2.2.2.2.1
  have hC : [wr.length].map (fun i => (wr ++ [(q, w0)])[i]?) = ([(q, w0)] : va_W).map some := by simp
  have hPc := hP.sub (ws' := [(q, w0)]) [wr.length] (fm_of _ _ _ hC)
  have hFc := va_free (wc := [(q, w0)]) hD hS hA [wr.length] hC
  have hlo : 8 + (Z.2.2.1 + 11) + (rmI d mc ms).locals ≤ R.locals := by
    show 8 + (Z.2.2.1 + 11) + 40 * d ≤ R.locals
    have := Nat.le_of_ble_eq_true h2
    omega
  have hpre : PreS s H (PcI E q H.size w0) (.ref q :: []) := ⟨FB_I E q H.size w0, fun U hU hW => ⟨rfl, by rw [hU], by rw [hU]; exact hPc, va_K.moved hW.alike hK, NW_warm hW hts, va_AO.moved hW.alike hO⟩⟩
  have fin : ∀ (u : Nat → Nat) (t : State) (H1 : Heap) (locs1 : List Loc), t.heap = H1 → s.vm.Alike t.vm → True → (va_P E.2.1 classes (wf u) t.heap ∧ va_D (va_A [(q, w0)] H.size) (wf u)) → H.size ≤ H1.size → (∀ x : Nat, x < H.size → ¬ va_A [(q, w0)] H.size x → H1[x]? = H[x]?) → va_S (AF s) s.heap H1 locs1 → W p E.1 e R s m args below meth c H1 locs1 (kc + mc) (ks + ms) (ZZ below args s) (F0 m (pc + 3) lA st) := by
    intro u t H1 locs1 ht hvm _ hB hz1 hk1 hS1
    obtain ⟨hP1, hD1⟩ := hB
    rw [ht] at hP1
    obtain ⟨hP2, hD2⟩ := va_join (wr := wr) (w1 := wf u) hP hD [wr.length] (List.range wr.length) hC (rng_map wr (q, w0)) hnd (by intro i hi; simp at hi ⊢; omega) hk1 hFc hP1 hD1
    exact k u p e s m args below meth c H1 locs1 lA C hP2 hD2 hS1 hl
  have hR : (rmI d mc ms).frames + 1 ≤ R.frames ∧ 8 + (Z.2.2.1 + 11) + (rmI d mc ms).locals ≤ R.locals := ⟨Nat.le_of_ble_eq_true h1, hlo⟩
  have hG : GoodIn tblU (wsM Z) := wsM_good w5
  have hroom : kc + mc ≤ R.cells ∧ ks + ms ≤ R.slots := ⟨Nat.le_of_ble_eq_true h3, Nat.le_of_ble_eq_true h4⟩
  have hw9 : 2 * (F0 m pc lA (.ref q :: st)).monitorRoom + (st.map fun v => v.category).sum ≤ 8 := lv_room (Nat.le_of_ble_eq_true hw8)
  rcases w1 with w1 | w1
  · exact va_callv (va_runI (As := []) (rest := st) ⟨C.1, C.2.1, C.2.2.2.1, C.2.2.2.2.1, hts⟩ (hM H.size) ⟨callB_of 0 hts hG (by rw [← hrt]; rfl) rfl rfl (hts _ w4.U) (hts _ w1.U) hdd hR, hnm, hts _ w2.U⟩ hpre rfl rfl hl.1 rfl hw9 hd hroom) hS (fun x _ h => hFc x h) hFc fin
  · exact va_callv (va_runIN (As := []) (rest := st) ⟨C.1, C.2.1, C.2.2.2.1, C.2.2.2.2.1, hts⟩ (hM H.size) ⟨va_cnB 0 hts hG (by rw [← hrt]; rfl) rfl rfl (va_Nw.of rfl (hts _ w1.U)) (hts _ w4.U) hdd hR, hnm, hts _ w2.U⟩ hpre rfl rfl hl.1 rfl hw9 hd hroom) hS (fun x _ h => hFc x h) hFc fin
end GROW
