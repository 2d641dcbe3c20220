/-! small contracts: no loops -/
section SM
variable {g : GG} {d : Nat} {σ : St} {F : Int32 → St → Prop}
theorem m_isSheet {x : Int32} (h1 : inR x 0 3 → F 1 σ) (h0 : ¬ inR x 0 3 → F 0 σ) : ME g d M_X4_isSheet [vI x] σ (qI F) := by
  refine ME_of (S_X4_isSheet_0 x σ ⟨fun a => h0 ?_, fun a => ⟨fun b => h0 ?_, fun b => h1 ?_⟩⟩) <;> ((try simp only [fa_lt, fa_le, fa_eq, Int32.reduceToInt, tm1, tm2, tm3, tm4, tm9, tm10, tm11, tm12, tm13, tm14, tm100] at *); omega)
theorem m_isLane {x : Int32} (h1 : inR x 0 2 → F 1 σ) (h0 : ¬ inR x 0 2 → F 0 σ) : ME g d M_X4_isLane [vI x] σ (qI F) := by
  refine ME_of (S_X4_isLane_0 x σ ⟨fun a => h0 ?_, fun a => ⟨fun b => h0 ?_, fun b => h1 ?_⟩⟩) <;> ((try simp only [fa_lt, fa_le, fa_eq, Int32.reduceToInt, tm1, tm2, tm3, tm4, tm9, tm10, tm11, tm12, tm13, tm14, tm100] at *); omega)
theorem m_has {x : Int32} (h1 : inR x 0 ((σ 10 3).toInt - 1) → F 1 σ) (h0 : ¬ inR x 0 ((σ 10 3).toInt - 1) → F 0 σ) : ME g d M_X0_has [vR 10, vI x] σ (qI F) := by
  refine ME_of (S_X0_has_0 x σ ⟨fun a => h0 ?_, fun a => ⟨fun b => h0 ?_, fun b => h1 ?_⟩⟩) <;> ((try simp only [fa_lt, fa_le, fa_eq, Int32.reduceToInt, tm1, tm2, tm3, tm4, tm9, tm10, tm11, tm12, tm13, tm14, tm100] at *); omega)
theorem m_within {x lo hi : Int32} (h1 : inR x lo.toInt hi.toInt → F 1 σ) (h0 : ¬ inR x lo.toInt hi.toInt → F 0 σ) : ME g d M_X5_within [vI x, vI lo, vI hi] σ (qI F) := by
  refine ME_of (S_X5_within_0 x lo hi σ ⟨fun a => h0 ?_, fun a => ⟨fun b => h0 ?_, fun b => h1 ?_⟩⟩) <;> ((try simp only [fa_lt, fa_le, fa_eq, Int32.reduceToInt, tm1, tm2, tm3, tm4, tm9, tm10, tm11, tm12, tm13, tm14, tm100] at *); omega)
theorem m_isHead {x : Int32} (h1 : inR x 0 ((σ 23 5).toInt - 1) → F 1 σ) (h0 : ¬ inR x 0 ((σ 23 5).toInt - 1) → F 0 σ) : ME g d M_X5_isHead [vR 23, vI x] σ (qI F) := by
  refine ME_of (S_X5_isHead_0 x σ ⟨fun a => h0 ?_, fun a => ⟨fun b => h0 ?_, fun b => h1 ?_⟩⟩) <;> ((try simp only [fa_lt, fa_le, fa_eq, Int32.reduceToInt, tm1, tm2, tm3, tm4, tm9, tm10, tm11, tm12, tm13, tm14, tm100] at *); omega)
theorem m_isSheet5 {x : Int32} (h1 : inR x 0 3 → F 1 σ) (h0 : ¬ inR x 0 3 → F 0 σ) : ME g (d + 1) M_X5_isSheet [vI x] σ (qI F) := by
  refine ME_of (S_X5_isSheet_0 x σ (m_within (fun a => ⟨h1 a, Or.inr rfl⟩) (fun a => ⟨h0 a, Or.inl rfl⟩)))
theorem m_isSort {x : Int32} (h1 : inR x 0 2 → F 1 σ) (h0 : ¬ inR x 0 2 → F 0 σ) : ME g (d + 1) M_X5_isSort [vI x] σ (qI F) := by
  refine ME_of (S_X5_isSort_0 x σ (m_within (fun a => ⟨h1 a, Or.inr rfl⟩) (fun a => ⟨h0 a, Or.inl rfl⟩)))
theorem m_isNothing {k : Nat} (hk : k < 4) (h1 : (σ (2 + k) 2).toInt < 0 → F 1 σ) (h0 : 0 ≤ (σ (2 + k) 2).toInt → F 0 σ) : ME g d M_X3_isNothing [vR (2 + k)] σ (qI F) := by
  refine ME_of (S_X3_isNothing_0 hk σ ⟨fun a => h0 ?_, fun a => h1 ?_⟩) <;> ((try simp only [fa_lt, fa_le, fa_eq, Int32.reduceToInt, tm1, tm2, tm3, tm4, tm9, tm10, tm11, tm12, tm13, tm14, tm100] at *); omega)
/-- the cells i .. of a row of so many are there -/
abbrev hasC (len i n : Int32) : Prop := 0 ≤ i.toInt ∧ 0 ≤ n.toInt ∧ i.toInt + n.toInt ≤ len.toInt
theorem m_hasCells {k : Nat} (hk : k < 4) {i n : Int32} (h1 : hasC (σ (2 + k) 2) i n → F 1 σ) (h0 : ¬ hasC (σ (2 + k) 2) i n → F 0 σ) : ME g d M_X3_hasCells [vR (2 + k), vI i, vI n] σ (qI F) := by
  have t1 := tS (σ (2 + k) 2) i
  have t2 := fb_rng (σ (2 + k) 2)
  have t3 := fb_rng i
  have t4 := fb_rng n
  have t5 := fb_rng (σ (2 + k) 2 - i)
  refine ME_of (S_X3_hasCells_0 hk i n σ ⟨fun a => h0 ?_, fun a => ⟨fun b => h0 ?_, fun b => ⟨fun c => h0 ?_, fun c => ⟨fun d => h0 ?_, fun d => h1 ?_⟩⟩⟩⟩) <;> ((try simp only [fa_lt, fa_le, fa_eq, Int32.reduceToInt, tm1, tm2, tm3, tm4, tm9, tm10, tm11, tm12, tm13, tm14, tm100] at *); omega)
/-- which fault, of a row of lane ln and length len, taken as lane, from i on, n cells: 1 NULL, 2 CAST, 4 SIZE, 3 INDEX -/
def fcN (len ln lane i n : Int32) : Nat := if len.toInt < 0 then 1 else if ¬ ln = lane then 2 else if n.toInt < 0 then 4 else if ¬ hasC len i n then 3 else 0
def fcV (c : Nat) : Int32 := match c with
  | 0 => 0
  | 1 => -11
  | 2 => -12
  | 3 => -13
  | _ => -14
theorem fcN_le (len ln lane i n : Int32) : fcN len ln lane i n ≤ 4 := by
  unfold fcN
  split
  · omega
  · split
    · omega
    · split
      · omega
      · split <;> omega
theorem m_faultOfCells {k : Nat} (hk : k < 4) {lane i n : Int32} (h : F (fcV (fcN (σ (2 + k) 2) (σ (2 + k) 1) lane i n)) σ) : ME g (d + 1) M_X3_faultOfCells [vR (2 + k), vI lane, vI i, vI n] σ (qI F) := by
  refine ME_of (S_X3_faultOfCells_0 hk lane i n σ (m_isNothing hk (fun a => b1p ?_) (fun a => b0p ⟨fun b => ⟨fun c => m_hasCells hk (fun e => b1p ?_) (fun e => b0p ?_), fun c => ?_⟩, fun b => ?_⟩)))
  · simpa [fcN, fcV, a] using h
  · have a' : ¬ (σ (2 + k) 2).toInt < 0 := by omega
    have c' : ¬ n.toInt < 0 := by ((try simp only [fa_lt, fa_le, fa_eq, Int32.reduceToInt, tm1, tm2, tm3, tm4, tm9, tm10, tm11, tm12, tm13, tm14, tm100] at *); omega)
    rw [fcN, if_neg a', if_neg (not_not_intro b), if_neg c', if_neg (not_not_intro e)] at h
    exact h
  · have a' : ¬ (σ (2 + k) 2).toInt < 0 := by omega
    have c' : ¬ n.toInt < 0 := by ((try simp only [fa_lt, fa_le, fa_eq, Int32.reduceToInt, tm1, tm2, tm3, tm4, tm9, tm10, tm11, tm12, tm13, tm14, tm100] at *); omega)
    rw [fcN, if_neg a', if_neg (not_not_intro b), if_neg c', if_pos e] at h
    exact h
  · have a' : ¬ (σ (2 + k) 2).toInt < 0 := by omega
    have c' : n.toInt < 0 := by ((try simp only [fa_lt, fa_le, fa_eq, Int32.reduceToInt, tm1, tm2, tm3, tm4, tm9, tm10, tm11, tm12, tm13, tm14, tm100] at *); omega)
    rw [fcN, if_neg a', if_neg (not_not_intro b), if_pos c'] at h
    exact h
  · have a' : ¬ (σ (2 + k) 2).toInt < 0 := by omega
    rw [fcN, if_neg a', if_pos b] at h
    exact h
/-- what the class notes of an answer -/
def ntV (r : Int32) : Int32 := if r.toInt < -10 then (-10) - r else 0
theorem m_noted {r : Int32} (h : F r (sU σ 0 7 (ntV r))) : ME g d M_X4_noted [vR 0, vI r] σ (qI F) := by
  refine ME_of (S_X4_noted_0 r σ ⟨fun a => ?_, fun a => ?_⟩)
  · rw [ntV, if_neg (by ((try simp only [fa_lt, fa_le, fa_eq, Int32.reduceToInt, tm1, tm2, tm3, tm4, tm9, tm10, tm11, tm12, tm13, tm14, tm100] at *); omega))] at h
    exact h
  · rw [ntV, if_pos (by ((try simp only [fa_lt, fa_le, fa_eq, Int32.reduceToInt, tm1, tm2, tm3, tm4, tm9, tm10, tm11, tm12, tm13, tm14, tm100] at *); omega))] at h
    exact h
/-- the class's trouble with cells -/
def tcV (σ : St) (k lane i n : Int32) : Int32 := if ¬ inR k 0 3 then -1 else if ¬ inR lane 0 2 then -2 else fcV (fcN (σ (2 + k.toNatClampNeg) 2) (σ (2 + k.toNatClampNeg) 1) lane i n)
theorem m_troubleOfCells {k lane i n : Int32} (h : F (tcV σ k lane i n) σ) : ME g (d + 2) M_X4_troubleOfCells [vR 0, vI k, vI lane, vI i, vI n] σ (qI F) := by
  refine ME_of (S_X4_troubleOfCells_0 k lane i n σ (m_isSheet (fun a => b1n (m_isLane (fun b => b1n ⟨inR_in a (by decide), m_faultOfCells (tcl_lt a (by decide)) ?_⟩) (fun b => b0n ?_))) (fun a => b0n ?_)))
  · rw [tcV, if_neg (not_not_intro a), if_neg (not_not_intro b)] at h
    exact h
  · rw [tcV, if_neg (not_not_intro a), if_pos b] at h
    exact h
  · rw [tcV, if_pos a] at h
    exact h
theorem m_fails {x : Int32} (h : F ((-10) - x) (sU σ 23 0 x)) : ME g d M_X5_fails [vR 23, vI x] σ (qI F) := ME_of (S_X5_fails_0 x σ h)
theorem m_lost {x : Int32} {G : Int64 → St → Prop} (h : G (-9223372036854775808) (sU σ 23 0 x)) : ME g d M_X5_lost [vR 23, vI x] σ (qL G) := ME_of (S_X5_lost_0 x σ h)
/-- LASTS -/
def lsV2 (kd w : Int32) : Int32 := if kd = 0 then w else if kd = 1 then w + 1 else 2 * (w + 1)
theorem m_lasting {kd w : Int32} (hk : inR kd 0 2) (h : F (lsV2 kd w) σ) : ME g d M_X4_lasting [vI kd, vI w] σ (qI F) := by
  refine ME_of (S_X4_lasting_0 kd w σ ⟨fun a => ⟨fun b => ?_, fun b => ?_⟩, fun a => ?_⟩)
  · rw [lsV2, if_pos (by ((try simp only [fa_lt, fa_le, fa_eq, Int32.reduceToInt, tm1, tm2, tm3, tm4, tm9, tm10, tm11, tm12, tm13, tm14, tm100] at *); omega))] at h
    exact h
  · rw [lsV2, if_neg (by ((try simp only [fa_lt, fa_le, fa_eq, Int32.reduceToInt, tm1, tm2, tm3, tm4, tm9, tm10, tm11, tm12, tm13, tm14, tm100] at *); omega)), if_pos b] at h
    exact h
  · rw [lsV2, if_neg (by ((try simp only [fa_lt, fa_le, fa_eq, Int32.reduceToInt, tm1, tm2, tm3, tm4, tm9, tm10, tm11, tm12, tm13, tm14, tm100] at *); omega)), if_neg (by ((try simp only [fa_lt, fa_le, fa_eq, Int32.reduceToInt, tm1, tm2, tm3, tm4, tm9, tm10, tm11, tm12, tm13, tm14, tm100] at *); omega))] at h
    exact h
theorem m_lasts {p : Int32} (hp : inR p 0 4) (h : F (lsV2 (σ 27 p.toNatClampNeg) (σ 28 p.toNatClampNeg)) σ) : ME g d M_X5_lasts [vR 23, vI p] σ (qI F) := by
  refine ME_of (S_X5_lasts_0 p σ ⟨inR_in hp (by decide), ⟨fun a => ⟨fun b => ?_, fun b => ?_⟩, fun a => ?_⟩⟩)
  · rw [lsV2, if_neg a, if_neg b] at h
    exact h
  · rw [lsV2, if_neg a, if_pos b] at h
    exact h
  · rw [lsV2, if_pos a] at h
    exact h
end SM
