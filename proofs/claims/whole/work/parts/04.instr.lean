/-! one lemma an instruction -/
theorem lsV_at {g : GG} {ls : List (Nat × MV)} {q i : Nat} {v : MV} (h : ls[q]? = some (i, v)) : (lsV g ls)[q]? = some (i, toV g v) := by
  rw [List.getElem?_map, h]; rfl
def cat2 (v : MV) : Bool := match v with
  | .inr (.inl _) => true
  | _ => false
def stL (i : Nat) (v : MV) (ls : List (Nat × MV)) : List (Nat × MV) := (i, v) :: ls.filter (fun q => !(q.1 == i) && !(q.1 + 1 == i && cat2 q.2))
def stL2 (i : Nat) (v : MV) (ls : List (Nat × MV)) : List (Nat × MV) := (i, v) :: ls.filter (fun q => !(q.1 == i) && (!(q.1 == i + 1) && !(q.1 + 1 == i && cat2 q.2)))
theorem cat2_ok (g : GG) (v : MV) : ((toV g v).category == 2) = cat2 v := by
  rcases v with x | x | x <;> rfl
theorem stL_ok (g : GG) (i : Nat) (v : MV) (ls : List (Nat × MV)) : (i, toV g v) :: (lsV g ls).filter (fun q => !(q.1 == i) && !(q.1 + 1 == i && q.2.category == 2)) = lsV g (stL i v ls) := by
  show _ = (i, toV g v) :: lsV g _
  congr 1
  rw [List.filter_map]
  congr 1
  apply List.filter_congr
  intro q _
  show _ = _
  simp only [Function.comp, cat2_ok]
theorem stL2_ok (g : GG) (i : Nat) (v : MV) (ls : List (Nat × MV)) : (i, toV g v) :: (lsV g ls).filter (fun q => !(q.1 == i) && (!(q.1 == i + 1) && !(q.1 + 1 == i && q.2.category == 2))) = lsV g (stL2 i v ls) := by
  show _ = (i, toV g v) :: lsV g _
  congr 1
  rw [List.filter_map]
  congr 1
  apply List.filter_congr
  intro q _
  show _ = _
  simp only [Function.comp, cat2_ok]
section VEI
variable {g : GG} {R : Room} {kc ks : Nat} {ZZ : List Frame → Array Value → State → State → Prop} {AF : State → Nat → Prop} {EX : State → Prop} {M : MD} {pc : Nat} {ls : List (Nat × MV)} {st : List MV} {σ : St}
/-- fewer listed locals, in any order: by their places -/
theorem VE_sub (ps : List Nat) {ls' : List (Nat × MV)} (h : ps.filterMap (fun k => ls[k]?) = ls') (k : VE g R kc ks ZZ AF EX M pc ls' st σ) : VE g R kc ks ZZ AF EX M pc ls st σ := by
  intro p e s m args below meth c H locs lA C hP hS hl
  refine k p e s m args below meth c H locs lA C hP hS ⟨hl.1, hl.2.1, fun q hq => ?_⟩
  subst h
  obtain ⟨q', h1, h2⟩ := List.mem_map.mp hq
  obtain ⟨i, -, hi⟩ := List.mem_filterMap.mp h1
  exact hl.2.2 q (List.mem_map.mpr ⟨q', List.mem_of_getElem? hi, h2⟩)
theorem VE_at {pc' : Nat} {ls' : List (Nat × MV)} {st' : List MV} {σ' : St} (k : VE g R kc ks ZZ AF EX M pc' ls' st' σ') (h1 : pc = pc' := by rfl) (h2 : ls = ls' := by rfl) (h3 : st = st' := by rfl) (h4 : σ = σ' := by rfl) : VE g R kc ks ZZ AF EX M pc ls st σ := by
  subst h1; subst h2; subst h3; subst h4; exact k
theorem VE_iconst {n : Int} (v : Int32) (hd : decode M.2.1 pc = .ok (.iconst n, 1)) (hv : Int32.ofInt n = v := by rfl) (k : VE g R kc ks ZZ AF EX M (pc + 1) ls (vI v :: st) σ) : VE g R kc ks ZZ AF EX M pc ls (st) σ := by
  intro p e s m args below meth c H locs lA C hP hS hl
  exact lv_iconst C.1 C.2.1 hd hv (k p e s m args below meth c H locs lA C hP hS hl)
theorem VE_bipush {n : Int} (v : Int32) (hd : decode M.2.1 pc = .ok (.bipush n, 2)) (hv : (Int8.ofInt n).toInt32 = v := by rfl) (k : VE g R kc ks ZZ AF EX M (pc + 2) ls (vI v :: st) σ) : VE g R kc ks ZZ AF EX M pc ls (st) σ := by
  intro p e s m args below meth c H locs lA C hP hS hl
  exact lv_bipush C.1 C.2.1 hd hv (k p e s m args below meth c H locs lA C hP hS hl)
theorem VE_sipush {n : Int} (v : Int32) (hd : decode M.2.1 pc = .ok (.sipush n, 3)) (hv : (Int16.ofInt n).toInt32 = v := by rfl) (k : VE g R kc ks ZZ AF EX M (pc + 3) ls (vI v :: st) σ) : VE g R kc ks ZZ AF EX M pc ls (st) σ := by
  intro p e s m args below meth c H locs lA C hP hS hl
  exact lv_sipush C.1 C.2.1 hd hv (k p e s m args below meth c H locs lA C hP hS hl)
theorem VE_lconst {n : Fin 2} (v : Int64) (hd : decode M.2.1 pc = .ok (.lconst n, 1)) (hv : Int64.ofNat (n : Nat) = v := by rfl) (k : VE g R kc ks ZZ AF EX M (pc + 1) ls (vL v :: st) σ) : VE g R kc ks ZZ AF EX M pc ls (st) σ := by
  intro p e s m args below meth c H locs lA C hP hS hl
  exact lv_lconst C.1 C.2.1 hd hv (k p e s m args below meth c H locs lA C hP hS hl)
theorem VE_iload_n {i : Fin 4} {x : Int32} (q : Nat) (hd : decode M.2.1 pc = .ok (.iload_n i, 1)) (h : ls[q]? = some ((i : Nat), vI x) := by rfl) (k : VE g R kc ks ZZ AF EX M (pc + 1) ls (vI x :: st) σ) : VE g R kc ks ZZ AF EX M pc ls (st) σ := by
  intro p e s m args below meth c H locs lA C hP hS hl
  exact lv_iload_n C.1 C.2.1 hd rfl (lv_at hl q (lsV_at h)) (k p e s m args below meth c H locs lA C hP hS hl)
theorem VE_iload {i : Nat} {x : Int32} (q : Nat) (hd : decode M.2.1 pc = .ok (.iload i, 2)) (h : ls[q]? = some (i, vI x) := by rfl) (k : VE g R kc ks ZZ AF EX M (pc + 2) ls (vI x :: st) σ) : VE g R kc ks ZZ AF EX M pc ls (st) σ := by
  intro p e s m args below meth c H locs lA C hP hS hl
  exact lv_iload C.1 C.2.1 hd (lv_at hl q (lsV_at h)) (k p e s m args below meth c H locs lA C hP hS hl)
theorem VE_lload_n {i : Fin 4} {x : Int64} (q : Nat) (hd : decode M.2.1 pc = .ok (.lload_n i, 1)) (h : ls[q]? = some ((i : Nat), vL x) := by rfl) (k : VE g R kc ks ZZ AF EX M (pc + 1) ls (vL x :: st) σ) : VE g R kc ks ZZ AF EX M pc ls (st) σ := by
  intro p e s m args below meth c H locs lA C hP hS hl
  exact lv_lload_n C.1 C.2.1 hd rfl (lv_at hl q (lsV_at h)) (k p e s m args below meth c H locs lA C hP hS hl)
theorem VE_lload {i : Nat} {x : Int64} (q : Nat) (hd : decode M.2.1 pc = .ok (.lload i, 2)) (h : ls[q]? = some (i, vL x) := by rfl) (k : VE g R kc ks ZZ AF EX M (pc + 2) ls (vL x :: st) σ) : VE g R kc ks ZZ AF EX M pc ls (st) σ := by
  intro p e s m args below meth c H locs lA C hP hS hl
  exact lv_lload C.1 C.2.1 hd (lv_at hl q (lsV_at h)) (k p e s m args below meth c H locs lA C hP hS hl)
theorem VE_aload_n {i : Fin 4} {x : Nat} (q : Nat) (hd : decode M.2.1 pc = .ok (.aload_n i, 1)) (h : ls[q]? = some ((i : Nat), vR x) := by rfl) (k : VE g R kc ks ZZ AF EX M (pc + 1) ls (vR x :: st) σ) : VE g R kc ks ZZ AF EX M pc ls (st) σ := by
  intro p e s m args below meth c H locs lA C hP hS hl
  exact lv_aload_n C.1 C.2.1 hd rfl (lv_at hl q (lsV_at h)) (k p e s m args below meth c H locs lA C hP hS hl)
theorem VE_aload {i : Nat} {x : Nat} (q : Nat) (hd : decode M.2.1 pc = .ok (.aload i, 2)) (h : ls[q]? = some (i, vR x) := by rfl) (k : VE g R kc ks ZZ AF EX M (pc + 2) ls (vR x :: st) σ) : VE g R kc ks ZZ AF EX M pc ls (st) σ := by
  intro p e s m args below meth c H locs lA C hP hS hl
  exact lv_aload C.1 C.2.1 hd (lv_at hl q (lsV_at h)) (k p e s m args below meth c H locs lA C hP hS hl)
theorem VE_istore_n {i : Fin 4} {x : Int32} {ls' : List (Nat × MV)} (hd : decode M.2.1 pc = .ok (.istore_n i, 1)) (k : VE g R kc ks ZZ AF EX M (pc + 1) ls' st σ) (hn : (i : Nat) < M.2.2.1 := by decide) (h : stL i (vI x) ls = ls' := by rfl) : VE g R kc ks ZZ AF EX M pc ls (vI x :: st) σ := by
  subst h
  intro p e s m args below meth c H locs lA C hP hS hl
  exact lv_istore_n C.1 C.2.1 hd rfl hl hn (stL_ok g i (vI x) ls) (fun l1 h1 => k p e s m args below meth c H locs l1 C hP hS h1)
theorem VE_istore {i : Nat} {x : Int32} {ls' : List (Nat × MV)} (hd : decode M.2.1 pc = .ok (.istore i, 2)) (k : VE g R kc ks ZZ AF EX M (pc + 2) ls' st σ) (hn : (i : Nat) < M.2.2.1 := by decide) (h : stL i (vI x) ls = ls' := by rfl) : VE g R kc ks ZZ AF EX M pc ls (vI x :: st) σ := by
  subst h
  intro p e s m args below meth c H locs lA C hP hS hl
  exact lv_istore C.1 C.2.1 hd hl hn (stL_ok g i (vI x) ls) (fun l1 h1 => k p e s m args below meth c H locs l1 C hP hS h1)
theorem VE_astore_n {i : Fin 4} {x : Nat} {ls' : List (Nat × MV)} (hd : decode M.2.1 pc = .ok (.astore_n i, 1)) (k : VE g R kc ks ZZ AF EX M (pc + 1) ls' st σ) (hn : (i : Nat) < M.2.2.1 := by decide) (h : stL i (vR x) ls = ls' := by rfl) : VE g R kc ks ZZ AF EX M pc ls (vR x :: st) σ := by
  subst h
  intro p e s m args below meth c H locs lA C hP hS hl
  exact lv_astore_n C.1 C.2.1 hd rfl hl hn (stL_ok g i (vR x) ls) (fun l1 h1 => k p e s m args below meth c H locs l1 C hP hS h1)
theorem VE_astore {i : Nat} {x : Nat} {ls' : List (Nat × MV)} (hd : decode M.2.1 pc = .ok (.astore i, 2)) (k : VE g R kc ks ZZ AF EX M (pc + 2) ls' st σ) (hn : (i : Nat) < M.2.2.1 := by decide) (h : stL i (vR x) ls = ls' := by rfl) : VE g R kc ks ZZ AF EX M pc ls (vR x :: st) σ := by
  subst h
  intro p e s m args below meth c H locs lA C hP hS hl
  exact lv_astore C.1 C.2.1 hd hl hn (stL_ok g i (vR x) ls) (fun l1 h1 => k p e s m args below meth c H locs l1 C hP hS h1)
theorem VE_lstore_n {i : Fin 4} {x : Int64} {ls' : List (Nat × MV)} (hd : decode M.2.1 pc = .ok (.lstore_n i, 1)) (k : VE g R kc ks ZZ AF EX M (pc + 1) ls' st σ) (hn : (i : Nat) + 1 < M.2.2.1 := by decide) (h : stL2 i (vL x) ls = ls' := by rfl) : VE g R kc ks ZZ AF EX M pc ls (vL x :: st) σ := by
  subst h
  intro p e s m args below meth c H locs lA C hP hS hl
  exact lv_lstore_n C.1 C.2.1 hd rfl hl hn (stL2_ok g i (vL x) ls) (fun l1 h1 => k p e s m args below meth c H locs l1 C hP hS h1)
theorem VE_lstore {i : Nat} {x : Int64} {ls' : List (Nat × MV)} (hd : decode M.2.1 pc = .ok (.lstore i, 2)) (k : VE g R kc ks ZZ AF EX M (pc + 2) ls' st σ) (hn : (i : Nat) + 1 < M.2.2.1 := by decide) (h : stL2 i (vL x) ls = ls' := by rfl) : VE g R kc ks ZZ AF EX M pc ls (vL x :: st) σ := by
  subst h
  intro p e s m args below meth c H locs lA C hP hS hl
  exact lv_lstore C.1 C.2.1 hd hl hn (stL2_ok g i (vL x) ls) (fun l1 h1 => k p e s m args below meth c H locs l1 C hP hS h1)
theorem VE_iinc {i : Nat} {n : Int} {x : Int32} (q : Nat) (v : Int32) {ls' : List (Nat × MV)} (hd : decode M.2.1 pc = .ok (.iinc i n, 3)) (k : VE g R kc ks ZZ AF EX M (pc + 3) ls' st σ) (hq : ls[q]? = some (i, vI x) := by rfl) (hv : x + Int32.ofInt n = v := by rfl) (hn : i < M.2.2.1 := by decide) (h : stL i (vI v) ls = ls' := by rfl) : VE g R kc ks ZZ AF EX M pc ls st σ := by
  subst h
  intro p e s m args below meth c H locs lA C hP hS hl
  exact lv_iinc C.1 C.2.1 hd hl (lsV_at hq) hv hn (stL_ok g i (vI v) ls) (fun l1 h1 => k p e s m args below meth c H locs l1 C hP hS h1)
theorem VE_iadd {x y : Int32} (hd : decode M.2.1 pc = .ok (.iadd, 1))  (k : VE g R kc ks ZZ AF EX M (pc + 1) ls (vI (x + y) :: st) σ) : VE g R kc ks ZZ AF EX M pc ls (vI y :: vI x :: st) σ := by
  intro p e s m args below meth c H locs lA C hP hS hl
  exact lv_iadd C.1 C.2.1 hd  (k p e s m args below meth c H locs lA C hP hS hl)
theorem VE_isub {x y : Int32} (hd : decode M.2.1 pc = .ok (.isub, 1))  (k : VE g R kc ks ZZ AF EX M (pc + 1) ls (vI (x - y) :: st) σ) : VE g R kc ks ZZ AF EX M pc ls (vI y :: vI x :: st) σ := by
  intro p e s m args below meth c H locs lA C hP hS hl
  exact lv_isub C.1 C.2.1 hd  (k p e s m args below meth c H locs lA C hP hS hl)
theorem VE_imul {x y : Int32} (hd : decode M.2.1 pc = .ok (.imul, 1))  (k : VE g R kc ks ZZ AF EX M (pc + 1) ls (vI (x * y) :: st) σ) : VE g R kc ks ZZ AF EX M pc ls (vI y :: vI x :: st) σ := by
  intro p e s m args below meth c H locs lA C hP hS hl
  exact lv_imul C.1 C.2.1 hd  (k p e s m args below meth c H locs lA C hP hS hl)
theorem VE_iand {x y : Int32} (hd : decode M.2.1 pc = .ok (.iand, 1))  (k : VE g R kc ks ZZ AF EX M (pc + 1) ls (vI (x &&& y) :: st) σ) : VE g R kc ks ZZ AF EX M pc ls (vI y :: vI x :: st) σ := by
  intro p e s m args below meth c H locs lA C hP hS hl
  exact lv_iand C.1 C.2.1 hd  (k p e s m args below meth c H locs lA C hP hS hl)
theorem VE_ior {x y : Int32} (hd : decode M.2.1 pc = .ok (.ior, 1))  (k : VE g R kc ks ZZ AF EX M (pc + 1) ls (vI (x ||| y) :: st) σ) : VE g R kc ks ZZ AF EX M pc ls (vI y :: vI x :: st) σ := by
  intro p e s m args below meth c H locs lA C hP hS hl
  exact lv_ior C.1 C.2.1 hd  (k p e s m args below meth c H locs lA C hP hS hl)
theorem VE_ishl {x y : Int32} (hd : decode M.2.1 pc = .ok (.ishl, 1))  (k : VE g R kc ks ZZ AF EX M (pc + 1) ls (vI (x <<< (y &&& 31)) :: st) σ) : VE g R kc ks ZZ AF EX M pc ls (vI y :: vI x :: st) σ := by
  intro p e s m args below meth c H locs lA C hP hS hl
  exact lv_ishl C.1 C.2.1 hd  (k p e s m args below meth c H locs lA C hP hS hl)
theorem VE_idiv {x y : Int32} (hd : decode M.2.1 pc = .ok (.idiv, 1)) (hne : ¬ y = 0) (k : VE g R kc ks ZZ AF EX M (pc + 1) ls (vI (x / y) :: st) σ) : VE g R kc ks ZZ AF EX M pc ls (vI y :: vI x :: st) σ := by
  intro p e s m args below meth c H locs lA C hP hS hl
  exact lv_idiv C.1 C.2.1 hd hne (k p e s m args below meth c H locs lA C hP hS hl)
theorem VE_irem {x y : Int32} (hd : decode M.2.1 pc = .ok (.irem, 1)) (hne : ¬ y = 0) (k : VE g R kc ks ZZ AF EX M (pc + 1) ls (vI (x - x / y * y) :: st) σ) : VE g R kc ks ZZ AF EX M pc ls (vI y :: vI x :: st) σ := by
  intro p e s m args below meth c H locs lA C hP hS hl
  exact lv_irem C.1 C.2.1 hd hne (k p e s m args below meth c H locs lA C hP hS hl)
theorem VE_ldiv {x y : Int64} (hd : decode M.2.1 pc = .ok (.ldiv, 1)) (hne : ¬ y = 0) (k : VE g R kc ks ZZ AF EX M (pc + 1) ls (vL (x / y) :: st) σ) : VE g R kc ks ZZ AF EX M pc ls (vL y :: vL x :: st) σ := by
  intro p e s m args below meth c H locs lA C hP hS hl
  exact lv_ldiv C.1 C.2.1 hd hne (k p e s m args below meth c H locs lA C hP hS hl)
theorem VE_lrem {x y : Int64} (hd : decode M.2.1 pc = .ok (.lrem, 1)) (hne : ¬ y = 0) (k : VE g R kc ks ZZ AF EX M (pc + 1) ls (vL (x - x / y * y) :: st) σ) : VE g R kc ks ZZ AF EX M pc ls (vL y :: vL x :: st) σ := by
  intro p e s m args below meth c H locs lA C hP hS hl
  exact lv_lrem C.1 C.2.1 hd hne (k p e s m args below meth c H locs lA C hP hS hl)
theorem VE_lcmp {x y : Int64} (hd : decode M.2.1 pc = .ok (.lcmp, 1))  (k : VE g R kc ks ZZ AF EX M (pc + 1) ls (vI (lg_cmp x y) :: st) σ) : VE g R kc ks ZZ AF EX M pc ls (vL y :: vL x :: st) σ := by
  intro p e s m args below meth c H locs lA C hP hS hl
  exact W.lcmp C.1 C.2.1 hd  (k p e s m args below meth c H locs lA C hP hS hl)
theorem VE_i2l {x : Int32} (hd : decode M.2.1 pc = .ok (.i2l, 1))  (k : VE g R kc ks ZZ AF EX M (pc + 1) ls (vL x.toInt64 :: st) σ) : VE g R kc ks ZZ AF EX M pc ls (vI x :: st) σ := by
  intro p e s m args below meth c H locs lA C hP hS hl
  exact lv_i2l C.1 C.2.1 hd rfl (k p e s m args below meth c H locs lA C hP hS hl)
theorem VE_i2b {x : Int32} (hd : decode M.2.1 pc = .ok (.i2b, 1))  (k : VE g R kc ks ZZ AF EX M (pc + 1) ls (vI x.toInt8.toInt32 :: st) σ) : VE g R kc ks ZZ AF EX M pc ls (vI x :: st) σ := by
  intro p e s m args below meth c H locs lA C hP hS hl
  exact lv_i2b C.1 C.2.1 hd rfl (k p e s m args below meth c H locs lA C hP hS hl)
theorem VE_i2s {x : Int32} (hd : decode M.2.1 pc = .ok (.i2s, 1))  (k : VE g R kc ks ZZ AF EX M (pc + 1) ls (vI x.toInt16.toInt32 :: st) σ) : VE g R kc ks ZZ AF EX M pc ls (vI x :: st) σ := by
  intro p e s m args below meth c H locs lA C hP hS hl
  exact lv_i2s C.1 C.2.1 hd rfl (k p e s m args below meth c H locs lA C hP hS hl)
theorem cat1_I (g : GG) (x : Int32) : (toV g (vI x)).category = 1 := rfl
theorem cat1_R (g : GG) (x : Nat) : (toV g (vR x)).category = 1 := rfl
theorem cat1_of (g : GG) {v : MV} (h : cat2 v = false) : (toV g v).category = 1 := by
  rcases v with x | x | x
  · rfl
  · cases h
  · rfl
theorem VE_dup {a : MV} (hd : decode M.2.1 pc = .ok (.dup, 1)) (h : cat2 a = false := by rfl) (k : VE g R kc ks ZZ AF EX M (pc + 1) ls (a :: a :: st) σ) : VE g R kc ks ZZ AF EX M pc ls (a :: st) σ := by
  intro p e s m args below meth c H locs lA C hP hS hl
  exact lv_dup C.1 C.2.1 hd (cat1_of g h) (k p e s m args below meth c H locs lA C hP hS hl)
theorem VE_dup_x1 {a b : MV} (hd : decode M.2.1 pc = .ok (.dup_x1, 1)) (h : cat2 a = false := by rfl) (h2 : cat2 b = false := by rfl) (k : VE g R kc ks ZZ AF EX M (pc + 1) ls (a :: b :: a :: st) σ) : VE g R kc ks ZZ AF EX M pc ls (a :: b :: st) σ := by
  intro p e s m args below meth c H locs lA C hP hS hl
  exact lv_dup_x1 C.1 C.2.1 hd (cat1_of g h) (cat1_of g h2) (k p e s m args below meth c H locs lA C hP hS hl)
theorem VE_dup2 {a b : MV} (hd : decode M.2.1 pc = .ok (.dup2, 1)) (h : cat2 a = false := by rfl) (h2 : cat2 b = false := by rfl) (k : VE g R kc ks ZZ AF EX M (pc + 1) ls (a :: b :: a :: b :: st) σ) : VE g R kc ks ZZ AF EX M pc ls (a :: b :: st) σ := by
  intro p e s m args below meth c H locs lA C hP hS hl
  exact lv_dup2_11 C.1 C.2.1 hd (cat1_of g h) (cat1_of g h2) (k p e s m args below meth c H locs lA C hP hS hl)
theorem VE_if_eq {x : Int32} {off : Int} (tgt : Nat) (hd : decode M.2.1 pc = .ok (.ifCond .eq off, 3)) (kt : x = 0 → VE g R kc ks ZZ AF EX M tgt ls st σ) (kf : ¬ x = 0 → VE g R kc ks ZZ AF EX M (pc + 3) ls st σ) (ht : (pc : Int) + off = (tgt : Int) := by decide) : VE g R kc ks ZZ AF EX M pc ls (vI x :: st) σ := by
  intro p e s m args below meth c H locs lA C hP hS hl
  exact lv_if_eq C.1 C.2.1 hd ht (fun h => kt h p e s m args below meth c H locs lA C hP hS hl) (fun h => kf h p e s m args below meth c H locs lA C hP hS hl)
theorem VE_icmp_eq {x y : Int32} {off : Int} (tgt : Nat) (hd : decode M.2.1 pc = .ok (.if_icmp .eq off, 3)) (kt : x = y → VE g R kc ks ZZ AF EX M tgt ls st σ) (kf : ¬ x = y → VE g R kc ks ZZ AF EX M (pc + 3) ls st σ) (ht : (pc : Int) + off = (tgt : Int) := by decide) : VE g R kc ks ZZ AF EX M pc ls (vI y :: vI x :: st) σ := by
  intro p e s m args below meth c H locs lA C hP hS hl
  exact lv_icmp_eq C.1 C.2.1 hd ht (fun h => kt h p e s m args below meth c H locs lA C hP hS hl) (fun h => kf h p e s m args below meth c H locs lA C hP hS hl)
theorem VE_if_ne {x : Int32} {off : Int} (tgt : Nat) (hd : decode M.2.1 pc = .ok (.ifCond .ne off, 3)) (kt : ¬ x = 0 → VE g R kc ks ZZ AF EX M tgt ls st σ) (kf : x = 0 → VE g R kc ks ZZ AF EX M (pc + 3) ls st σ) (ht : (pc : Int) + off = (tgt : Int) := by decide) : VE g R kc ks ZZ AF EX M pc ls (vI x :: st) σ := by
  intro p e s m args below meth c H locs lA C hP hS hl
  exact lv_if_ne C.1 C.2.1 hd ht (fun h => kt h p e s m args below meth c H locs lA C hP hS hl) (fun h => kf h p e s m args below meth c H locs lA C hP hS hl)
theorem VE_icmp_ne {x y : Int32} {off : Int} (tgt : Nat) (hd : decode M.2.1 pc = .ok (.if_icmp .ne off, 3)) (kt : ¬ x = y → VE g R kc ks ZZ AF EX M tgt ls st σ) (kf : x = y → VE g R kc ks ZZ AF EX M (pc + 3) ls st σ) (ht : (pc : Int) + off = (tgt : Int) := by decide) : VE g R kc ks ZZ AF EX M pc ls (vI y :: vI x :: st) σ := by
  intro p e s m args below meth c H locs lA C hP hS hl
  exact lv_icmp_ne C.1 C.2.1 hd ht (fun h => kt h p e s m args below meth c H locs lA C hP hS hl) (fun h => kf h p e s m args below meth c H locs lA C hP hS hl)
theorem VE_if_lt {x : Int32} {off : Int} (tgt : Nat) (hd : decode M.2.1 pc = .ok (.ifCond .lt off, 3)) (kt : x < 0 → VE g R kc ks ZZ AF EX M tgt ls st σ) (kf : ¬ x < 0 → VE g R kc ks ZZ AF EX M (pc + 3) ls st σ) (ht : (pc : Int) + off = (tgt : Int) := by decide) : VE g R kc ks ZZ AF EX M pc ls (vI x :: st) σ := by
  intro p e s m args below meth c H locs lA C hP hS hl
  exact lv_if_lt C.1 C.2.1 hd ht (fun h => kt h p e s m args below meth c H locs lA C hP hS hl) (fun h => kf h p e s m args below meth c H locs lA C hP hS hl)
theorem VE_icmp_lt {x y : Int32} {off : Int} (tgt : Nat) (hd : decode M.2.1 pc = .ok (.if_icmp .lt off, 3)) (kt : x < y → VE g R kc ks ZZ AF EX M tgt ls st σ) (kf : ¬ x < y → VE g R kc ks ZZ AF EX M (pc + 3) ls st σ) (ht : (pc : Int) + off = (tgt : Int) := by decide) : VE g R kc ks ZZ AF EX M pc ls (vI y :: vI x :: st) σ := by
  intro p e s m args below meth c H locs lA C hP hS hl
  exact lv_icmp_lt C.1 C.2.1 hd ht (fun h => kt h p e s m args below meth c H locs lA C hP hS hl) (fun h => kf h p e s m args below meth c H locs lA C hP hS hl)
theorem VE_if_ge {x : Int32} {off : Int} (tgt : Nat) (hd : decode M.2.1 pc = .ok (.ifCond .ge off, 3)) (kt : 0 ≤ x → VE g R kc ks ZZ AF EX M tgt ls st σ) (kf : ¬ 0 ≤ x → VE g R kc ks ZZ AF EX M (pc + 3) ls st σ) (ht : (pc : Int) + off = (tgt : Int) := by decide) : VE g R kc ks ZZ AF EX M pc ls (vI x :: st) σ := by
  intro p e s m args below meth c H locs lA C hP hS hl
  exact lv_if_ge C.1 C.2.1 hd ht (fun h => kt h p e s m args below meth c H locs lA C hP hS hl) (fun h => kf h p e s m args below meth c H locs lA C hP hS hl)
theorem VE_icmp_ge {x y : Int32} {off : Int} (tgt : Nat) (hd : decode M.2.1 pc = .ok (.if_icmp .ge off, 3)) (kt : y ≤ x → VE g R kc ks ZZ AF EX M tgt ls st σ) (kf : ¬ y ≤ x → VE g R kc ks ZZ AF EX M (pc + 3) ls st σ) (ht : (pc : Int) + off = (tgt : Int) := by decide) : VE g R kc ks ZZ AF EX M pc ls (vI y :: vI x :: st) σ := by
  intro p e s m args below meth c H locs lA C hP hS hl
  exact lv_icmp_ge C.1 C.2.1 hd ht (fun h => kt h p e s m args below meth c H locs lA C hP hS hl) (fun h => kf h p e s m args below meth c H locs lA C hP hS hl)
theorem VE_if_gt {x : Int32} {off : Int} (tgt : Nat) (hd : decode M.2.1 pc = .ok (.ifCond .gt off, 3)) (kt : 0 < x → VE g R kc ks ZZ AF EX M tgt ls st σ) (kf : ¬ 0 < x → VE g R kc ks ZZ AF EX M (pc + 3) ls st σ) (ht : (pc : Int) + off = (tgt : Int) := by decide) : VE g R kc ks ZZ AF EX M pc ls (vI x :: st) σ := by
  intro p e s m args below meth c H locs lA C hP hS hl
  exact lv_if_gt C.1 C.2.1 hd ht (fun h => kt h p e s m args below meth c H locs lA C hP hS hl) (fun h => kf h p e s m args below meth c H locs lA C hP hS hl)
theorem VE_icmp_gt {x y : Int32} {off : Int} (tgt : Nat) (hd : decode M.2.1 pc = .ok (.if_icmp .gt off, 3)) (kt : y < x → VE g R kc ks ZZ AF EX M tgt ls st σ) (kf : ¬ y < x → VE g R kc ks ZZ AF EX M (pc + 3) ls st σ) (ht : (pc : Int) + off = (tgt : Int) := by decide) : VE g R kc ks ZZ AF EX M pc ls (vI y :: vI x :: st) σ := by
  intro p e s m args below meth c H locs lA C hP hS hl
  exact lv_icmp_gt C.1 C.2.1 hd ht (fun h => kt h p e s m args below meth c H locs lA C hP hS hl) (fun h => kf h p e s m args below meth c H locs lA C hP hS hl)
theorem VE_if_le {x : Int32} {off : Int} (tgt : Nat) (hd : decode M.2.1 pc = .ok (.ifCond .le off, 3)) (kt : x ≤ 0 → VE g R kc ks ZZ AF EX M tgt ls st σ) (kf : ¬ x ≤ 0 → VE g R kc ks ZZ AF EX M (pc + 3) ls st σ) (ht : (pc : Int) + off = (tgt : Int) := by decide) : VE g R kc ks ZZ AF EX M pc ls (vI x :: st) σ := by
  intro p e s m args below meth c H locs lA C hP hS hl
  exact lv_if_le C.1 C.2.1 hd ht (fun h => kt h p e s m args below meth c H locs lA C hP hS hl) (fun h => kf h p e s m args below meth c H locs lA C hP hS hl)
theorem VE_icmp_le {x y : Int32} {off : Int} (tgt : Nat) (hd : decode M.2.1 pc = .ok (.if_icmp .le off, 3)) (kt : x ≤ y → VE g R kc ks ZZ AF EX M tgt ls st σ) (kf : ¬ x ≤ y → VE g R kc ks ZZ AF EX M (pc + 3) ls st σ) (ht : (pc : Int) + off = (tgt : Int) := by decide) : VE g R kc ks ZZ AF EX M pc ls (vI y :: vI x :: st) σ := by
  intro p e s m args below meth c H locs lA C hP hS hl
  exact lv_icmp_le C.1 C.2.1 hd ht (fun h => kt h p e s m args below meth c H locs lA C hP hS hl) (fun h => kf h p e s m args below meth c H locs lA C hP hS hl)
theorem VE_goto {off : Int} (tgt : Nat) (hd : decode M.2.1 pc = .ok (.goto off, 3)) (k : VE g R kc ks ZZ AF EX M tgt ls st σ) (ht : (pc : Int) + off = (tgt : Int) := by decide) : VE g R kc ks ZZ AF EX M pc ls st σ := by
  intro p e s m args below meth c H locs lA C hP hS hl
  exact lv_goto C.1 C.2.1 hd ht (k p e s m args below meth c H locs lA C hP hS hl)
theorem VE_tableOut {dflt lo hi : Int} {offs : Array Int} {len : Nat} {x : Int32} (tgt : Nat) (hd : decode M.2.1 pc = .ok (.tableswitch dflt lo hi offs, len)) (h : x.toInt < lo ∨ hi < x.toInt) (k : VE g R kc ks ZZ AF EX M tgt ls st σ) (ht : (pc : Int) + dflt = (tgt : Int) := by decide) : VE g R kc ks ZZ AF EX M pc ls (vI x :: st) σ := by
  intro p e s m args below meth c H locs lA C hP hS hl
  exact lv_tableOut C.1 C.2.1 hd h ht (k p e s m args below meth c H locs lA C hP hS hl)
theorem VE_tableIn {dflt lo hi : Int} {offs : Array Int} {len : Nat} {x : Int32} {off : Int} (tgt : Nat) (hd : decode M.2.1 pc = .ok (.tableswitch dflt lo hi offs, len)) (h1 : ¬ x.toInt < lo) (h2 : ¬ hi < x.toInt) (ho : offs[(x.toInt - lo).toNat]? = some off) (k : VE g R kc ks ZZ AF EX M tgt ls st σ) (ht : (pc : Int) + off = (tgt : Int) := by decide) : VE g R kc ks ZZ AF EX M pc ls (vI x :: st) σ := by
  intro p e s m args below meth c H locs lA C hP hS hl
  exact lv_tableIn C.1 C.2.1 hd h1 h2 ho ht (k p e s m args below meth c H locs lA C hP hS hl)
theorem VE_lookup {dflt : Int} {ps : Array (Int × Int)} {len : Nat} {x : Int32} {off : Int} (tgt : Nat) (hd : decode M.2.1 pc = .ok (.lookupswitch dflt ps, len)) (hp : (ps.toList.zip (ps.toList.drop 1)).all (fun (a, next) => a.1 < next.1) = true) (ho : Op.lookupswitch.offset ps.toList dflt x.toInt = off) (k : VE g R kc ks ZZ AF EX M tgt ls st σ) (ht : (pc : Int) + off = (tgt : Int) := by decide) : VE g R kc ks ZZ AF EX M pc ls (vI x :: st) σ := by
  intro p e s m args below meth c H locs lA C hP hS hl
  exact lv_lookup C.1 C.2.1 hd hp ho ht (k p e s m args below meth c H locs lA C hP hS hl)
theorem VE_ldc2 {idx : Nat} (v : Int64) (i : Nat) (hd : decode M.2.1 pc = .ok (.ldc2_w idx, 3)) (hw : Wd i (.constantLong M.1.cls idx v)) (k : VE g R kc ks ZZ AF EX M (pc + 3) ls (vL v :: st) σ) : VE g R kc ks ZZ AF EX M pc ls st σ := by
  intro p e s m args below meth c H locs lA C hP hS hl
  exact lv_ldc2 C.1 C.2.1 C.2.2.2.2.1 (C.2.2.2.2.2.1 _ hw.U) hd (k p e s m args below meth c H locs lA C hP hS hl)
/-- the class's own facts -/
theorem cls_ok {ci : Nat} {C : String} {T : u_T} {N : Nat} (h : classes[ci]? = some (C, T, N)) : (∀ w ∈ u_ws C T N, w ∈ tblU) ∧ (∃ ty : Nat → FieldType, ∀ k, k < N → parseFieldDescriptor (T k).2.2.1 = some (ty k)) ∧ (∀ a, a < N → ∀ b, b < N → a ≠ b → (T a).2.1 ≠ (T b).2.1) ∧ (∀ k, k < N → (T k).1 = C) := by
  have up : ∀ {C : String} {T : u_T} {N : Nat}, (∀ w ∈ u_ws C T N, w ∈ lw_tbl) → ∀ w ∈ u_ws C T N, w ∈ tblU := by
    intro C T N h w hw
    refine List.mem_filter.mpr ⟨h w hw, ?_⟩
    obtain ⟨k, -, rfl⟩ := List.mem_map.mp hw
    unfold u_lay
    split <;> rfl
  match ci, h with
  | 0, h => cases h; exact ⟨up inX0, ⟨_, tyX0_ok⟩, nmX0, by decide +kernel⟩
  | 1, h => cases h; exact ⟨up inX1, ⟨_, tyX1_ok⟩, nmX1, by decide +kernel⟩
  | 2, h => cases h; exact ⟨up inX2, ⟨_, tyX2_ok⟩, nmX2, by decide +kernel⟩
  | 3, h => cases h; exact ⟨up inX3, ⟨_, tyX3_ok⟩, nmX3, by decide +kernel⟩
  | 4, h => cases h; exact ⟨up inX4, ⟨_, tyX4_ok⟩, nmX4, by decide +kernel⟩
  | 5, h => cases h; exact ⟨up inX5, ⟨_, tyX5_ok⟩, nmX5, by decide +kernel⟩
  | k + 6, h => simp [classes] at h
/-- the field link idx of the class own: the field k of the class ci -/
def FL (own : String) (idx ci k : Nat) : Prop := ∃ (C : String) (T : u_T) (N i : Nat), classes[ci]? = some (C, T, N) ∧ k < N ∧ (Wd i (.fieldLink own idx C (T k).2.1 (T k).2.2.1) ∨ Wd i (.fieldLinkNest own idx C (T k).2.1 (T k).2.2.1 "FaceGlass"))
theorem VE_getV {idx ci k j : Nat} {r : Option Nat} (hd : decode M.2.1 pc = .ok (.getfield idx, 3)) (hf : FL M.1.cls idx ci k) (ho : ofld j ci k = some r) (v : MV) (hv : toV g v = fvv g r (σ j k)) (kk : VE g R kc ks ZZ AF EX M (pc + 3) ls (v :: st) σ) : VE g R kc ks ZZ AF EX M pc ls (vR j :: st) σ := by
  intro p e s m args below meth c H locs lA C hP hS hl
  obtain ⟨Cn, T, N, i, hc, hk, hw⟩ := hf
  obtain ⟨l, hs, hlk⟩ := ofld_sh ho
  obtain ⟨hj, hcel⟩ := cel_o (g := g) hs (σ j)
  obtain ⟨hin, -, -, hown⟩ := cls_ok hc
  have he : (WS g σ)[j]? = some (g.2.2.1 j, .inr (ci, fvs g l (σ j))) := by rw [WS_at g σ hj, hcel]
  have hK := C.2.2.2.2.2.2.2.1
  have hts := C.2.2.2.2.2.1
  have kk' := kk p e s m args below meth c H locs lA C hP hS hl
  have hv2 : (fvs g l (σ j))[k]? = some (toV g v) := by rw [fvs_at hlk, hv]
  rcases hw with hw | hw
  · exact va_get (D := g.2.1) (tys := tysG g) C.1 C.2.1 hts hin C.2.2.2.2.1 hK hP j he hc k hk (hts _ hw.U) (fun x h => by rw [hown k hk] at h; exact h) hv2 hd kk'
  · exact va_getN (D := g.2.1) (tys := tysG g) C.1 C.2.1 hts hin C.2.2.2.2.1 hK hP j he hc k hk (hts _ hw.U) (fun x h => by rw [hown k hk] at h; exact h) hv2 hd kk'
theorem VE_getI {idx ci k j : Nat} (hd : decode M.2.1 pc = .ok (.getfield idx, 3)) (hf : FL M.1.cls idx ci k) (kk : VE g R kc ks ZZ AF EX M (pc + 3) ls (vI (σ j k) :: st) σ) (ho : ofld j ci k = some none := by rfl) : VE g R kc ks ZZ AF EX M pc ls (vR j :: st) σ := VE_getV hd hf ho (vI (σ j k)) rfl kk
theorem VE_getR {idx ci k j : Nat} (t : Nat) (hd : decode M.2.1 pc = .ok (.getfield idx, 3)) (hf : FL M.1.cls idx ci k) (kk : VE g R kc ks ZZ AF EX M (pc + 3) ls (vR t :: st) σ) (ho : ofld j ci k = some (some t) := by rfl) : VE g R kc ks ZZ AF EX M pc ls (vR j :: st) σ := VE_getV hd hf ho (vR t) rfl kk
theorem VE_put {idx ci k j : Nat} {x : Int32} (hd : decode M.2.1 pc = .ok (.putfield idx, 3)) (hf : FL M.1.cls idx ci k) (kk : VE g R kc ks ZZ AF EX M (pc + 3) ls st (sU σ j k x)) (ho : ofld j ci k = some none := by rfl) (hfin : ((classes[ci]?).map (fun q => ((q.2.1 k).2.2.2, (q.2.1 k).2.2.1))) = some (false, "I") := by rfl) : VE g R kc ks ZZ AF EX M pc ls (vI x :: vR j :: st) σ := by
  intro p e s m args below meth c H locs lA C hP hS hl
  obtain ⟨Cn, T, N, i, hc, hk, hw⟩ := hf
  obtain ⟨l, hs, hlk⟩ := ofld_sh ho
  obtain ⟨hj, hcel⟩ := cel_o (g := g) hs (σ j)
  obtain ⟨hj, hcel2⟩ := cel_o (g := g) hs (upd (σ j) k x)
  obtain ⟨hin, ⟨ty, hty⟩, hnm, hown⟩ := cls_ok hc
  have he : (WS g σ)[j]? = some (g.2.2.1 j, .inr (ci, fvs g l (σ j))) := by rw [WS_at g σ hj, hcel]
  have hK := C.2.2.2.2.2.2.2.1
  have hts := C.2.2.2.2.2.1
  have hAp := C.2.2.2.2.2.2.2.2.1
  rw [hc] at hfin
  have hf1 : (T k).2.2.2 = false := congrArg Prod.fst (Option.some.inj hfin)
  have hf2 : (T k).2.2.1 = "I" := congrArg Prod.snd (Option.some.inj hfin)
  have hll : k < (fvs g l (σ j)).length := (List.getElem?_eq_some_iff.mp (fvs_at (g := g) (f := σ j) hlk)).1
  have hset : (WS g σ).set j (g.2.2.1 j, .inr (ci, (fvs g l (σ j)).set k (.int x))) = WS g (sU σ j k x) := WS_set g σ _ hj _ (by rw [sU_s, hcel2, fvs_set hlk]) (fun i hi => sU_o hi)
  have kk' : ∀ (H1 : Heap) (locs1 : List Loc), va_P g.2.1 classes ((WS g σ).set j (g.2.2.1 j, .inr (ci, (fvs g l (σ j)).set k (.int x)))) H1 → va_D (AF s) ((WS g σ).set j (g.2.2.1 j, .inr (ci, (fvs g l (σ j)).set k (.int x)))) → va_S (AF s) s.heap H1 locs1 → W p g.1 e R s m args below meth c H1 locs1 kc ks (ZZ below args s) (F0 m (pc + 3) lA (stV g st)) := fun H1 locs1 hP1 _ hS1 => kk p e s m args below meth c H1 locs1 lA C (by rw [hset] at hP1; exact hP1) hS1 hl
  rcases hw with hw | hw
  · exact va_put (D := g.2.1) (tys := tysG g) (ty := .int) C.1 C.2.1 hts hin ty hty hnm C.2.2.2.2.1 hK hP (WS_D hAp.1 hAp.2 σ) hS j he hc k hk (hts _ hw.U) (fun x h => by rw [hown k hk] at h; exact h) hf1 (by rw [hf2]; rfl) rfl rfl hll hd kk'
  · exact va_putN (D := g.2.1) (tys := tysG g) (ty := .int) C.1 C.2.1 hts hin ty hty hnm C.2.2.2.2.1 hK hP (WS_D hAp.1 hAp.2 σ) hS j he hc k hk (hts _ hw.U) (fun x h => by rw [hown k hk] at h; exact h) hf1 (by rw [hf2]; rfl) rfl rfl hll hd kk'
/-- int arrays -/
theorem VE_iald {j : Nat} {i : Int32} (hd : decode M.2.1 pc = .ok (.iaload, 1)) (hin : vp_in i (alen j)) (kk : VE g R kc ks ZZ AF EX M (pc + 1) ls (vI (σ j i.toNatClampNeg) :: st) σ) (ha : isA j = true := by rfl) : VE g R kc ks ZZ AF EX M pc ls (vI i :: vR j :: st) σ := by
  intro p e s m args below meth c H locs lA C hP hS hl
  obtain ⟨-, hj, hc⟩ := isA_sh ha
  exact va_iald (D := g.2.1) (tys := tysG g) C.1 C.2.1 C.2.2.2.2.2.2.2.1 hP j 0 (f := σ j) (by rw [WS_at g σ hj, hc]) rfl hin hd (kk p e s m args below meth c H locs lA C hP hS hl)
theorem VE_iast {j : Nat} {i x : Int32} (hd : decode M.2.1 pc = .ok (.iastore, 1)) (hin : vp_in i (alen j)) (kk : VE g R kc ks ZZ AF EX M (pc + 1) ls st (sU σ j i.toNatClampNeg x)) (ha : isA j = true := by rfl) : VE g R kc ks ZZ AF EX M pc ls (vI x :: vI i :: vR j :: st) σ := by
  intro p e s m args below meth c H locs lA C hP hS hl
  obtain ⟨-, hj, hc⟩ := isA_sh ha
  have hAp := C.2.2.2.2.2.2.2.2.1
  have hset : (WS g σ).set j (g.2.2.1 j, .inl (g.2.2.2.1, alen j, .inl (upd (σ j) i.toNatClampNeg x))) = WS g (sU σ j i.toNatClampNeg x) := WS_set g σ _ hj _ (by rw [sU_s, hc]) (fun i hi => sU_o hi)
  exact va_iast (D := g.2.1) (tys := tysG g) C.1 C.2.1 C.2.2.2.2.2.2.2.1 hP (WS_D hAp.1 hAp.2 σ) hS j 0 (f := σ j) (by rw [WS_at g σ hj, hc]) rfl hin hd (fun H1 locs1 hP1 _ hS1 => kk p e s m args below meth c H1 locs1 lA C (by rw [hset] at hP1; exact hP1) hS1 hl)
/-- the row of sheets -/
theorem VE_aald {i : Int32} (hd : decode M.2.1 pc = .ok (.aaload, 1)) (hin : vp_in i 4) (kk : VE g R kc ks ZZ AF EX M (pc + 1) ls (vR (2 + i.toNatClampNeg) :: st) σ) : VE g R kc ks ZZ AF EX M pc ls (vI i :: vR 1 :: st) σ := by
  intro p e s m args below meth c H locs lA C hP hS hl
  exact va_aldq (D := g.2.1) (tys := tysG g) (C := RX3) (f := fun i => some (g.2.2.1 (2 + i))) C.1 C.2.1 C.2.2.2.2.2.2.2.1 hP 1 1 (by rw [WS_at g σ (by decide)]; rfl) rfl hin hd (kk p e s m args below meth c H locs lA C hP hS hl)
end VEI
