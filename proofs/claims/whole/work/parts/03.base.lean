/-! THE STORE JUDGEMENT: all 37 cells (23 of the class, 14 of the reference) have fixed addresses; a state is a store of ints. -/
abbrev St : Type := Nat → Nat → Int32
abbrev MV : Type := Int32 ⊕ (Int64 ⊕ Nat)
abbrev GG : Type := Launch × va_G × (Nat → Nat) × ClassId × ClassId
abbrev MD : Type := MethodName × ByteArray × Nat × Option FieldType
abbrev vI (x : Int32) : MV := .inl x
abbrev vL (x : Int64) : MV := .inr (.inl x)
abbrev vR (j : Nat) : MV := .inr (.inr j)
def toV (g : GG) (v : MV) : Value := match v with
  | .inl x => .int x
  | .inr (.inl x) => .long x
  | .inr (.inr j) => .ref (g.2.2.1 j)
abbrev classes : List vw_C := [(RX0, TX0, 4), (RX1, TX1, 5), (RX2, TX2, 4), (RX3, TX3, 3), (RX4, TX4, 8), (RX5, TX5, 22)]
abbrev tysG (g : GG) : List (ClassId × FieldType) := [(g.2.2.2.1, .int), (g.2.2.2.2, .object RX3)]
/-- the shape of a cell: an array of so many ints, or an object of a class with its fields (some t: the cell t; none: an int) -/
def shp (j : Nat) : Nat ⊕ (Nat × List (Option Nat)) := match j with
  | 0 => .inr (4, [some 1, some 10, some 14, some 18, some 22, none, none, none])
  | 2 => .inr (3, [some 6, none, none])
  | 3 => .inr (3, [some 7, none, none])
  | 4 => .inr (3, [some 8, none, none])
  | 5 => .inr (3, [some 9, none, none])
  | 6 => .inl 60
  | 7 => .inl 60
  | 8 => .inl 60
  | 9 => .inl 60
  | 10 => .inr (0, [some 11, some 12, some 13, none])
  | 11 => .inl 5
  | 12 => .inl 5
  | 13 => .inl 5
  | 14 => .inr (1, [some 15, some 16, some 17, none, none])
  | 15 => .inl 5
  | 16 => .inl 5
  | 17 => .inl 5
  | 18 => .inr (2, [some 19, some 20, some 21, none])
  | 19 => .inl 8
  | 20 => .inl 8
  | 21 => .inl 8
  | 22 => .inl 20
  | 23 => .inr (5, [none, none, some 24, some 25, some 26, none, some 27, some 28, some 29, none, none, some 30, some 31, some 32, none, none, some 33, none, none, some 34, some 35, some 36])
  | 24 => .inl 4
  | 25 => .inl 4
  | 26 => .inl 240
  | 27 => .inl 5
  | 28 => .inl 5
  | 29 => .inl 5
  | 30 => .inl 15
  | 31 => .inl 5
  | 32 => .inl 5
  | 33 => .inl 20
  | 34 => .inl 8
  | 35 => .inl 8
  | 36 => .inl 8
  | _ => .inl 0
def fvv (g : GG) (r : Option Nat) (x : Int32) : Value := match r with
  | some t => .ref (g.2.2.1 t)
  | none => .int x
def fvs (g : GG) (l : List (Option Nat)) (f : Nat → Int32) : List Value := (List.range l.length).map (fun k => fvv g ((l[k]?).getD none) (f k))
def cel (g : GG) (j : Nat) (f : Nat → Int32) : va_E := if j = 1 then .inl (g.2.2.2.2, 4, .inr (.inr (.inr (.inr (fun i => some (g.2.2.1 (2 + i))))))) else match shp j with
  | .inl n => .inl (g.2.2.2.1, n, .inl f)
  | .inr q => .inr (q.1, fvs g q.2 f)
def WS (g : GG) (σ : St) : va_W := (List.range 37).map (fun j => (g.2.2.1 j, cel g j (σ j)))
def sU (σ : St) (j k : Nat) (v : Int32) : St := fun a => if a = j then upd (σ j) k v else σ a
def AA (g : GG) : Nat → Prop := fun q => ∃ j, j < 37 ∧ q = g.2.2.1 j
def Apt (g : GG) : Prop := ∀ i j, i < 37 → j < 37 → g.2.2.1 i = g.2.2.1 j → i = j
theorem WS_at (g : GG) (σ : St) {j : Nat} (h : j < 37) : (WS g σ)[j]? = some (g.2.2.1 j, cel g j (σ j)) := by
  simp [WS, h]
theorem WS_ge (g : GG) (σ : St) {j : Nat} {q : Nat × va_E} (h : (WS g σ)[j]? = some q) : j < 37 ∧ q = (g.2.2.1 j, cel g j (σ j)) := by
  have hj : j < 37 := by
    have := (List.getElem?_eq_some_iff.mp h).1
    simpa [WS] using this
  rw [WS_at g σ hj] at h
  exact ⟨hj, (Option.some.inj h).symm⟩
theorem WS_set (g : GG) (σ σ' : St) {j : Nat} (hj : j < 37) (e : va_E) (he : cel g j (σ' j) = e) (ho : ∀ i, i ≠ j → σ' i = σ i) : (WS g σ).set j (g.2.2.1 j, e) = WS g σ' := by
  apply List.ext_getElem?
  intro i
  by_cases hi : i = j
  · subst hi
    rw [List.getElem?_set_self (by simpa [WS] using hj), WS_at g σ' hj, he]
  · rw [List.getElem?_set_ne (Ne.symm hi)]
    by_cases hl : i < 37
    · rw [WS_at g σ hl, WS_at g σ' hl, ho i hi]
    · rw [List.getElem?_eq_none (by simpa [WS] using Nat.not_lt.mp hl), List.getElem?_eq_none (by simpa [WS] using Nat.not_lt.mp hl)]
theorem sU_o {σ : St} {j k : Nat} {v : Int32} {i : Nat} (h : i ≠ j) : sU σ j k v i = σ i := by simp [sU, h]
theorem sU_s {σ : St} {j k : Nat} {v : Int32} : sU σ j k v j = upd (σ j) k v := by simp [sU]
theorem WS_D {g : GG} (h : Apt g) {A : Nat → Prop} (hA : ∀ j, j < 37 → A (g.2.2.1 j)) (σ : St) : va_D A (WS g σ) := by
  refine ⟨fun i j p q hi hj he => ?_, fun k q hk => ?_⟩
  · obtain ⟨li, rfl⟩ := WS_ge g σ hi
    obtain ⟨lj, rfl⟩ := WS_ge g σ hj
    exact h i j li lj he
  · obtain ⟨lk, rfl⟩ := WS_ge g σ hk
    exact hA k lk
/-- the field k of the object j, of the class ci: none: an int; some t: the cell t -/
def ofld (j ci k : Nat) : Option (Option Nat) := match shp j with
  | .inr (c, l) => if c = ci then l[k]? else none
  | .inl _ => none
def alen (j : Nat) : Nat := match shp j with
  | .inl n => n
  | _ => 0
def isA (j : Nat) : Bool := match shp j with
  | .inl n => !(n == 0)
  | _ => false
theorem shp_lt {j : Nat} (h : shp j ≠ .inl 0) : j < 37 ∧ j ≠ 1 := by
  refine ⟨?_, fun e => h (by rw [e]; rfl)⟩
  rcases Nat.lt_or_ge j 37 with q | q
  · exact q
  · exfalso
    apply h
    obtain ⟨k, rfl⟩ : ∃ k, j = k + 37 := ⟨j - 37, by omega⟩
    rfl
theorem ofld_sh {j ci k : Nat} {r : Option Nat} (h : ofld j ci k = some r) : ∃ l, shp j = .inr (ci, l) ∧ l[k]? = some r := by
  unfold ofld at h
  cases e : shp j with
  | inl n => rw [e] at h; cases h
  | inr q =>
    obtain ⟨c, l⟩ := q
    rw [e] at h
    dsimp only at h
    by_cases hc : c = ci
    · rw [if_pos hc] at h
      exact ⟨l, by rw [hc], h⟩
    · rw [if_neg hc] at h; cases h
theorem cel_o {g : GG} {j ci : Nat} {l : List (Option Nat)} (h : shp j = .inr (ci, l)) (f : Nat → Int32) : j < 37 ∧ cel g j f = .inr (ci, fvs g l f) := by
  obtain ⟨h1, h2⟩ := shp_lt (j := j) (by rw [h]; exact fun q => by cases q)
  refine ⟨h1, ?_⟩
  unfold cel
  rw [if_neg h2, h]
theorem isA_sh {j : Nat} (h : isA j = true) : shp j = .inl (alen j) ∧ j < 37 ∧ ∀ (g : GG) (f : Nat → Int32), cel g j f = .inl (g.2.2.2.1, alen j, .inl f) := by
  have e : shp j = .inl (alen j) := by
    unfold alen
    unfold isA at h
    cases e : shp j with
    | inl n => rfl
    | inr q => rw [e] at h; cases h
  have hne : shp j ≠ .inl 0 := by
    intro q
    unfold isA at h
    rw [q] at h
    exact absurd h (by decide)
  obtain ⟨h1, h2⟩ := shp_lt hne
  refine ⟨e, h1, fun g f => ?_⟩
  unfold cel
  rw [if_neg h2, e]
theorem fvs_at {g : GG} {l : List (Option Nat)} {f : Nat → Int32} {k : Nat} {r : Option Nat} (h : l[k]? = some r) : (fvs g l f)[k]? = some (fvv g r (f k)) := by
  have hk : k < l.length := (List.getElem?_eq_some_iff.mp h).1
  unfold fvs
  rw [List.getElem?_map, List.getElem?_range hk]
  show some (fvv g ((l[k]?).getD none) (f k)) = some _
  rw [h]
  rfl
theorem fvs_set {g : GG} {l : List (Option Nat)} {f : Nat → Int32} {k : Nat} (h : l[k]? = some none) (v : Int32) : (fvs g l f).set k (.int v) = fvs g l (upd f k v) := by
  have hk : k < l.length := (List.getElem?_eq_some_iff.mp h).1
  apply List.ext_getElem?
  intro i
  by_cases hi : i = k
  · subst hi
    rw [List.getElem?_set_self (by simpa [fvs] using hk), fvs_at h]
    simp [upd, fvv]
  · rw [List.getElem?_set_ne (Ne.symm hi)]
    unfold fvs
    rw [List.getElem?_map, List.getElem?_map]
    by_cases hl : i < l.length
    · rw [List.getElem?_range hl]
      simp [upd, hi]
    · rw [List.getElem?_eq_none (by simpa using Nat.not_lt.mp hl)]
      rfl
/-! the judgement -/
def isNest (w : Cond) : Bool := match w with
  | .fieldLinkNest _ _ _ _ _ _ => true
  | .methodLinkNest _ _ _ _ => true
  | _ => false
def tblG : List Cond := lw_tbl.filter goodWord
def tblN : List Cond := lw_tbl.filter isNest
def tblU : List Cond := lw_tbl.filter (fun w => goodWord w || isNest w)
def wsM (M : MD) : List Cond := .code M.1 M.2.1 M.2.2.1 M.2.2.2 :: tblG
def rmD (d : Nat) : Room := { frames := d, cells := 0, slots := 0, locals := 40 * d }
def NW (U : State) : Prop := ∀ w ∈ tblN, va_Nw w U
theorem NW_hts {args : Array Value} {s : State} (h1 : ∀ w ∈ tblG, w.before args s = true) (h2 : NW s) : ∀ w ∈ tblU, w.before args s = true := by
  intro w hw
  obtain ⟨hw, h⟩ := List.mem_filter.mp hw
  rw [Bool.or_eq_true] at h
  rcases h with h | h
  · exact h1 w (List.mem_filter.mpr ⟨hw, h⟩)
  · have hN := h2 w (List.mem_filter.mpr ⟨hw, h⟩)
    cases w <;> first | (exact va_Nw.use rfl hN) | (exact absurd h (by simp [isNest]))
theorem NW_warm {s U : State} (hW : s.WarmedH U.vm) {args : Array Value} (h : ∀ w ∈ tblU, w.before args s = true) : NW U := by
  intro w hw
  obtain ⟨h1, h2⟩ := List.mem_filter.mp hw
  have hb := h w (List.mem_filter.mpr ⟨h1, by rw [h2, Bool.or_true]⟩)
  cases w <;> first | (exact va_Nw.warmF hW (va_Nw.of rfl hb)) | (exact va_Nw.warmM hW (va_Nw.of rfl hb)) | (exact absurd h2 (by simp [isNest]))
theorem tblG_good {big : List Cond} (h : ∀ w ∈ tblG, w ∈ big) : GoodIn big tblG := fun w hw => ⟨h w hw, good_of_word (List.mem_filter.mp hw).2⟩
theorem tblG_U : ∀ w ∈ tblG, w ∈ tblU := fun w hw => List.mem_filter.mpr ⟨(List.mem_filter.mp hw).1, by rw [(List.mem_filter.mp hw).2, Bool.true_or]⟩
/-- a word of the tables, by its place -/
def Wd (i : Nat) (w : Cond) : Prop := lw_tbl[i]? = some w ∧ (goodWord w || isNest w) = true
theorem Wd.U {i : Nat} {w : Cond} (h : Wd i w) : w ∈ tblU := List.mem_filter.mpr ⟨List.mem_of_getElem? h.1, h.2⟩
theorem NW_same {u U : State} (h : u.vm = U.vm) (hN : NW u) : NW U := by
  intro w hw
  have hb := hN w hw
  obtain ⟨h1, h2⟩ := List.mem_filter.mp hw
  cases w <;> first | (exact va_Nw.same rfl h hb) | (exact absurd h2 (by simp [isNest]))
def rvM (g : GG) (rt : Option FieldType) (r : MV) : Option Value := match rt with
  | none => none
  | some _ => some (toV g r)
def PcM (g : GG) (as : List MV) (σ : St) : Array Value → State → Prop := va_Pc (as.map (toV g)) (fun U => va_P g.2.1 classes (WS g σ) U.heap ∧ va_K g.2.1 classes (tysG g) U ∧ NW U)
def QcM (g : GG) (rt : Option FieldType) (Q : MV → St → Prop) : Array Value → State → Outcome → State → Prop := fun _ st oc t => (∃ (r : MV) (σ' : St), oc = .returned (rvM g rt r) ∧ Q r σ' ∧ va_P g.2.1 classes (WS g σ') t.heap) ∧ va_F (AA g) st t
/-- THE CONTRACT of a method: from the store σ, with the arguments as, it returns, and Q holds of its answer and the new store -/
def ME (g : GG) (d : Nat) (M : MD) (as : List MV) (σ : St) (Q : MV → St → Prop) : Prop := Apt g → Met g.1 M.1 (wsM M) (rmD d) (PcM g as σ) (QcM g M.2.2.2 Q) 0 0 (AA g)
def CT (g : GG) (AF : State → Nat → Prop) (EX : State → Prop) (M : MD) (p : Program) (s : State) (m : MethodId) (args : Array Value) (meth : Method) (c : Code) : Prop :=
  p.tables.exec = Jvm.exec ∧ c.code = M.2.1 ∧ meth.sig.returnType = M.2.2.2 ∧ c.maxLocals = M.2.2.1 ∧ s.vm.findClass M.1.cls = some m.cls ∧ (∀ w ∈ tblU, w.before args s = true) ∧ meth.locks = false ∧ va_K g.2.1 classes (tysG g) s ∧ (Apt g ∧ ∀ j, j < 37 → AF s (g.2.2.1 j)) ∧ EX s
abbrev lsV (g : GG) (ls : List (Nat × MV)) : List (Nat × Value) := ls.map (fun q => (q.1, toV g q.2))
abbrev stV (g : GG) (st : List MV) : List Value := st.map (toV g)
/-- the machine, at pc with these locals, this stack and this store, comes to its end as ZZ says -/
def VE (g : GG) (R : Room) (kc ks : Nat) (ZZ : List Frame → Array Value → State → State → Prop) (AF : State → Nat → Prop) (EX : State → Prop) (M : MD) (pc : Nat) (ls : List (Nat × MV)) (st : List MV) (σ : St) : Prop :=
  ∀ (p : Program) (e : Env) (s : State) (m : MethodId) (args : Array Value) (below : List Frame) (meth : Method) (c : Code) (H : Heap) (locs : List Loc) (lA : Array Slot),
    CT g AF EX M p s m args meth c → va_P g.2.1 classes (WS g σ) H → va_S (AF s) s.heap H locs → lv_has lA M.2.2.1 (lsV g ls) →
    W p g.1 e R s m args below meth c H locs kc ks (ZZ below args s) (F0 m pc lA (stV g st))
def zM (g : GG) (M : MD) (Q : MV → St → Prop) : List Frame → Array Value → State → State → Prop := fun below a s => MQ below (QcM g M.2.2.2 Q) a s 0 0 (AA g)
abbrev VM (g : GG) (d : Nat) (M : MD) (Q : MV → St → Prop) : Nat → List (Nat × MV) → List MV → St → Prop := VE g (rmD d) 0 0 (zM g M Q) (fun _ => AA g) (fun _ => True) M
