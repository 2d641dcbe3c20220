/-! plans: the reference tries all rows, by number -/
def dig (h n N k : Nat) : Nat := N / h ^ (n - 1 - k) % h
def hitB (la : Nat → Int32) (h n N p f : Nat) : Bool := match goF la (dig h n N) n 0 hs0 with
  | .inl _ => false
  | .inr y => decide (y.1 p = nI f)
def FrN (σ σ' : St) : Prop := (∀ a, a ≠ 33 → a ≠ 23 → σ' a = σ a) ∧ ∀ j, j ≠ 15 → σ' 23 j = σ 23 j
section PLAN
variable {g : GG} {d h : Nat} {σ : St}
theorem dig_lt (hh : 0 < h) (n N k : Nat) : dig h n N k < h := Nat.mod_lt _ hh
theorem l_layRow {G : St → Prop} {n N : Nat} {x1 : Int32} (h5 : h ≤ 5) (hh : 0 < h) (hn : n ≤ 20) (hN : N < 2147483648) (σ0 : St) (e5 : σ0 23 5 = nI h) (hF : ∀ σ', FrN σ0 σ' → σ' 23 15 = nI n → (∀ k, k < n → σ' 33 k = nI (dig h n N k)) → G σ') :
    ∀ (m : Nat) (σ : St), m ≤ n → (∀ a, a ≠ 33 → σ a = σ0 a) → (∀ j, m ≤ j → j < n → σ 33 j = nI (dig h n N j)) → VM g d M_X5_layRow (qV G) 7 [(0, vR 23), (1, vI x1), (2, vI (nI n)), (3, vI (nI (N / h ^ (n - m)))), (4, vI (nI m - 1))] [] σ
  | 0, σ, hm, f, e => by
    refine S_X5_layRow_7 x1 (nI n) _ _ σ (brt (by decide) (hF _ ⟨fun a a1 a2 => by rw [sU_o a2, f a a1], fun j hj => ?_⟩ rfl (fun k hk => e k (Nat.zero_le k) hk)))
    rw [sU_s]
    simp only [upd]
    rw [if_neg hj, f 23 (by decide)]
  | m + 1, σ, hm, f, e => by
    have e5' : σ 23 5 = nI h := by rw [f 23 (by decide), e5]
    have pw : N / h ^ (n - (m + 1)) < 2147483648 := Nat.lt_of_le_of_lt (Nat.div_le_self _ _) hN
    have ne0 : ¬ nI h = 0 := nI_ne0 hh (by omega)
    rw [nI_pred]
    refine S_X5_layRow_7 x1 (nI n) _ (nI m) σ (brn (nI_pos (by omega)) ?_)
    rw [e5', cl_n m (by omega), pk_rem pw hh (by omega), pk_div pw hh (by omega)]
    refine ⟨ne0, vp_in_nI (by omega) (by decide), ne0, ?_⟩
    have ed : N / h ^ (n - (m + 1)) / h = N / h ^ (n - m) := by
      rw [Nat.div_div_eq_div_mul, ← Nat.pow_succ]
      congr 2
      omega
    rw [ed, show nI m + (-1) = nI m - 1 from (Int32.sub_eq_add_neg (nI m) 1).symm]
    refine l_layRow h5 hh hn hN σ0 e5 hF m _ (by omega) (fun a ha => by rw [sU_o ha, f a ha]) (fun j h1 h2 => ?_)
    rw [sU_s]
    simp only [upd]
    by_cases jm : j = m
    · rw [if_pos jm, jm]
      unfold dig
      rw [show n - 1 - m = n - (m + 1) by omega]
    · rw [if_neg jm]
      exact e j (by omega) h2
theorem m_layRow {G : St → Prop} {n N : Nat} (h5 : h ≤ 5) (hh : 0 < h) (hn : n ≤ 20) (hN : N < 2147483648) (e5 : σ 23 5 = nI h) (hF : ∀ σ', FrN σ σ' → σ' 23 15 = nI n → (∀ k, k < n → σ' 33 k = nI (dig h n N k)) → G σ') : ME g d M_X5_layRow [vR 23, vI (nI N), vI (nI n)] σ (qV G) := by
  refine ME_of (S_X5_layRow_0 (nI N) (nI n) σ ?_)
  have := l_layRow (g := g) (d := d) (x1 := nI N) h5 hh hn hN σ e5 hF n σ (Nat.le_refl n) (fun _ _ => rfl) (fun j h1 h2 => absurd h2 (by omega))
  rw [Nat.sub_self, Nat.pow_zero, Nat.div_one] at this
  exact this
/-- what the search changes -/
def FrS (σ σ' : St) : Prop := (∀ a, a ≠ 23 → a ≠ 31 → a ≠ 32 → a ≠ 33 → σ' a = σ a) ∧ ∀ j, j ≠ 14 → j ≠ 15 → j ≠ 17 → σ' 23 j = σ 23 j
theorem FrS.rf (σ : St) : FrS σ σ := ⟨fun _ _ _ _ _ => rfl, fun _ _ _ _ => rfl⟩
theorem FrS.tr {a b c : St} (h1 : FrS a b) (h2 : FrS b c) : FrS a c := ⟨fun x p q r s => (h2.1 x p q r s).trans (h1.1 x p q r s), fun x p q r => (h2.2 x p q r).trans (h1.2 x p q r)⟩
theorem FrN.S {a b : St} (h1 : FrN a b) : FrS a b := ⟨fun x p _ _ s => h1.1 x s p, fun x _ q _ => h1.2 x q⟩
theorem FrG.S {a b : St} (h1 : FrG a b) : FrS a b := ⟨fun x p q r _ => h1.1 x q r p, fun x p _ _ => h1.2 x p⟩
/-- lay the row of a number, and go -/
theorem m_layGo {F : Int32 → St → Prop} {la : Nat → Int32} {n N : Nat} (h5 : h ≤ 5) (hh : 0 < h) (hn : n ≤ 20) (hN : N < 2147483648) (e5 : σ 23 5 = nI h) (hla : ∀ i, i < h → lsV2 (σ 27 i) (σ 28 i) = la i) (hl : ∀ i, i < h → 0 ≤ (la i).toInt ∧ (la i).toInt ≤ 20)
    (h1 : ∀ k, goF la (dig h n N) n 0 hs0 = .inl k → k < n → ∀ σ', FrS σ σ' → (∀ k, k < n → σ' 33 k = nI (dig h n N k)) → F (nI k) σ') (h2 : ∀ x', goF la (dig h n N) n 0 hs0 = .inr x' → ∀ σ', AgM σ' h la x' → FrS σ σ' → (∀ k, k < n → σ' 33 k = nI (dig h n N k)) → F (-9) σ') : ME g (d + 3) M_X5_layRow [vR 23, vI (nI N), vI (nI n)] σ (qV (fun σ1 => ME g (d + 3) M_X5_go [vR 23] σ1 (qI F))) := by
  refine m_layRow h5 hh hn hN e5 (fun σ1 f1 q15 q33 => ?_)
  have f27 : ∀ i, i < h → lsV2 (σ1 27 i) (σ1 28 i) = la i := fun i hi => by rw [f1.1 27 (by decide) (by decide), f1.1 28 (by decide) (by decide)]; exact hla i hi
  exact m_go h5 hn (fun v _ => dig_lt hh n N v) (by rw [f1.2 5 (by decide), e5]) f27 hl q15 q33 (fun k e hk σ2 f2 => h1 k e hk σ2 (f1.S.tr f2.S) (fun k hk => by rw [f2.1 33 (by decide) (by decide) (by decide)]; exact q33 k hk)) (fun x' e σ2 hA _ f2 => h2 x' e σ2 hA (f1.S.tr f2.S) (fun k hk => by rw [f2.1 33 (by decide) (by decide) (by decide)]; exact q33 k hk))
/-- numbers without a hit are passed -/
theorem l_fpN {G : St → Prop} {la : Nat → Int32} {n X p f : Nat} {x3 x4 : Int32} (h5 : h ≤ 5) (hh : 0 < h) (hn : n ≤ 20) (hX : X < 100000) (hp : p < h) (ex3 : x3 = nI X) (ex4 : x4 = nI n) (σ0 : St) (e5 : σ0 23 5 = nI h) (hla : ∀ i, i < h → lsV2 (σ0 27 i) (σ0 28 i) = la i) (hl : ∀ i, i < h → 0 ≤ (la i).toInt ∧ (la i).toInt ≤ 20) {Y : Nat} (hY : Y ≤ X)
    (hno : ∀ N, N < Y → hitB la h n N p f = false)
    (hF : ∀ σ', FrS σ0 σ' → VM g (d + 4) M_X5_findPlan (qV G) 21 [(0, vR 23), (1, vI (nI p)), (2, vI (nI f)), (3, vI x3), (4, vI x4), (5, vI (nI Y))] [] σ') :
    ∀ (m N : Nat) (σ : St), N + m = Y → FrS σ0 σ → VM g (d + 4) M_X5_findPlan (qV G) 21 [(0, vR 23), (1, vI (nI p)), (2, vI (nI f)), (3, vI x3), (4, vI x4), (5, vI (nI N))] [] σ
  | 0, N, σ, hN, fr => by
    rw [show N = Y by omega]
    exact hF σ fr
  | m + 1, N, σ, hN, fr => by
    have hb := hno N (by omega)
    unfold hitB at hb
    refine S_X5_findPlan_21 (nI p) (nI f) x3 x4 (nI N) σ (brn (by rw [ex3]; exact nI_ge (by omega) (by omega)) ?_)
    rw [nI_1, cl_n p (by omega), ex4]
    rw [ex4] at hF
    refine m_layGo (la := la) h5 hh hn (by omega) (by rw [fr.2 5 (by decide) (by decide) (by decide), e5]) (fun i hi => by rw [fr.1 27 (by decide) (by decide) (by decide) (by decide), fr.1 28 (by decide) (by decide) (by decide) (by decide)]; exact hla i hi) hl (fun k e hk σ1 f1 _ => brn' ?_ ?_) (fun y e σ1 hA f1 _ => brt' rfl ⟨vp_in_nI (by omega) (by decide), ?_⟩)
    · rw [fa_eq, tm9, nI_v (by omega)]; omega
    · have := l_fpN (x4 := nI n) h5 hh hn hX hp ex3 rfl σ0 e5 hla hl hY hno hF m (N + 1) σ1 (by omega) (fr.tr f1)
      exact this
    · rw [e] at hb
      have hb : decide (y.1 p = nI f) = false := hb
      have hb : ¬ y.1 p = nI f := by simpa using hb
      rw [(hA.2.2 p hp).1]
      refine brn' hb ?_
      exact l_fpN (x4 := nI n) h5 hh hn hX hp ex3 rfl σ0 e5 hla hl hY hno hF m (N + 1) σ1 (by omega) (fr.tr f1)
/-- .. and one with a hit ends the search -/
theorem l_fpH {G : St → Prop} {la : Nat → Int32} {n X N p f : Nat} {x3 x4 : Int32} (h5 : h ≤ 5) (hh : 0 < h) (hn : n ≤ 20) (hX : X < 100000) (hp : p < h) (ex3 : x3 = nI X) (ex4 : x4 = nI n) (e5 : σ 23 5 = nI h) (hla : ∀ i, i < h → lsV2 (σ 27 i) (σ 28 i) = la i) (hl : ∀ i, i < h → 0 ≤ (la i).toInt ∧ (la i).toInt ≤ 20) (hN : N < X)
    (hit : hitB la h n N p f = true) (hF : ∀ σ', FrS σ σ' → (∀ k, k < n → σ' 33 k = nI (dig h n N k)) → G (sU σ' 23 17 (nI n))) :
    VM g (d + 4) M_X5_findPlan (qV G) 21 [(0, vR 23), (1, vI (nI p)), (2, vI (nI f)), (3, vI x3), (4, vI x4), (5, vI (nI N))] [] σ := by
  unfold hitB at hit
  refine S_X5_findPlan_21 (nI p) (nI f) x3 x4 (nI N) σ (brn (by rw [ex3]; exact nI_ge (by omega) (by omega)) ?_)
  rw [nI_1, cl_n p (by omega), ex4]
  refine m_layGo (la := la) h5 hh hn (by omega) e5 hla hl (fun k e hk σ1 f1 _ => ?_) (fun y e σ1 hA f1 q => brt' rfl ⟨vp_in_nI (by omega) (by decide), ?_⟩)
  · rw [e] at hit
    cases hit
  · rw [e] at hit
    have hit : decide (y.1 p = nI f) = true := hit
    have hit : y.1 p = nI f := by simpa using hit
    rw [(hA.2.2 p hp).1]
    exact brt' hit (hF σ1 f1 q)
theorem hit0 {la : Nat → Int32} {p f : Nat} (hp : p < 5) (hf : f < 5) : hitB la h 0 0 p f = decide (p = f) := by
  have e : (nI p = nI f) ↔ p = f := nI_eq (by omega) (by omega)
  unfold hitB
  rw [goF]
  show decide (nI p = nI f) = _
  simp [e]
theorem hit1 {la : Nat → Int32} {N p f : Nat} (hp : p < 5) (hf : f < 5) (ne : p ≠ f) : hitB la h 1 N p f = false := by
  unfold hitB
  rw [goF, hStep, if_pos (by rfl)]
  show (match goF la (dig h 1 N) 0 1 (upd hs0.1 (dig h 1 N 0) (-9), hs0.2.1, hs0.1 (dig h 1 N 0)) with | .inl _ => false | .inr y => decide (y.1 p = nI f)) = false
  rw [goF]
  show decide (upd hs0.1 (dig h 1 N 0) (-9) p = nI f) = false
  rw [decide_eq_false_iff_not]
  simp only [upd]
  split
  · intro z
    have := congrArg Int32.toInt z
    rw [tm9, nI_v (by omega)] at this
    omega
  · intro z
    exact ne ((nI_eq (by omega) (by omega)).mp z)
theorem hit2 {la : Nat → Int32} {N p f : Nat} (h5 : h ≤ 5) (hh : 0 < h) (hl : ∀ i, i < h → 1 ≤ (la i).toInt) (hp : p < h) (hf : f < h) (ne : p ≠ f) (hN : N < h * h) : hitB la h 2 N p f = decide (N = f * h + p) := by
  have d0 : dig h 2 N 0 = N / h := by
    unfold dig
    rw [show 2 - 1 - 0 = 1 from rfl, Nat.pow_one, Nat.mod_eq_of_lt (Nat.div_lt_of_lt_mul hN)]
  have d1 : dig h 2 N 1 = N % h := by
    unfold dig
    rw [show 2 - 1 - 1 = 0 from rfl, Nat.pow_zero, Nat.div_one]
  have q0 : N / h < h := Nat.div_lt_of_lt_mul hN
  have q1 : N % h < h := Nat.mod_lt _ hh
  have dm := Nat.div_add_mod N h
  have n9 : ¬ nI (N / h) = -9 := by rw [fa_eq, tm9, nI_v (by omega)]; omega
  unfold hitB
  rw [goF, hStep, if_pos (by rfl)]
  show (match goF la (dig h 2 N) 1 1 (upd hs0.1 (dig h 2 N 0) (-9), hs0.2.1, hs0.1 (dig h 2 N 0)) with | .inl _ => false | .inr y => decide (y.1 p = nI f)) = _
  rw [goF, d0, d1, hStep]
  show (match (match (if nI (N / h) = -9 then some (upd (upd hs0.1 (N / h) (-9)) (N % h) (-9), hs0.2.1, upd hs0.1 (N / h) (-9) (N % h)) else if (0 : Int32) < la (nI (N / h)).toNatClampNeg then some (upd (upd hs0.1 (N / h) (-9)) (N % h) (nI (N / h)), upd hs0.2.1 (nI (N / h)).toNatClampNeg (hs0.2.1 (nI (N / h)).toNatClampNeg + 1), upd hs0.1 (N / h) (-9) (N % h)) else none) with | none => (Sum.inl 1 : Nat ⊕ HS) | some x' => goF la (dig h 2 N) 0 2 x') with | .inl _ => false | .inr y => decide (y.1 p = nI f)) = _
  rw [if_neg n9, cl_n (N / h) (by omega), if_pos (by rw [fa_lt]; have := hl _ q0; have z : (0 : Int32).toInt = 0 := rfl; omega)]
  show decide (upd (upd hs0.1 (N / h) (-9)) (N % h) (nI (N / h)) p = nI f) = _
  have ee : (upd (upd hs0.1 (N / h) (-9)) (N % h) (nI (N / h)) p = nI f) ↔ N = f * h + p := by
    simp only [upd]
    have cm : h * (N / h) = (N / h) * h := Nat.mul_comm _ _
    by_cases e1 : p = N % h
    · rw [if_pos e1]
      constructor
      · intro z
        have := (nI_eq (by omega) (by omega)).mp z
        rw [← this, e1]
        omega
      · intro z
        congr 1
        rw [z, Nat.mul_comm f h, Nat.mul_add_div hh, Nat.div_eq_of_lt hp, Nat.add_zero]
    · rw [if_neg e1]
      have nz : ¬ N = f * h + p := by
        intro z
        apply e1
        rw [z, Nat.mul_comm f h, Nat.mul_add_mod, Nat.mod_eq_of_lt hp]
      constructor
      · intro z
        exfalso
        split at z
        · have := congrArg Int32.toInt z
          rw [tm9, nI_v (by omega)] at this
          omega
        · exact ne ((nI_eq (by omega) (by omega)).mp z)
      · intro z
        exact absurd z nz
  simp [ee]
/-- the plan that is found -/
theorem m_findPlan {G : St → Prop} {la : Nat → Int32} {p f : Nat} (h5 : h ≤ 5) (hp : p < h) (hf : f < h) (e5 : σ 23 5 = nI h) (hla : ∀ i, i < h → lsV2 (σ 27 i) (σ 28 i) = la i) (hl : ∀ i, i < h → 1 ≤ (la i).toInt ∧ (la i).toInt ≤ 20)
    (hE : p = f → ∀ σ', FrS σ σ' → σ' 23 17 = 0 → G σ') (hN : p ≠ f → ∀ σ', FrS σ σ' → σ' 23 17 = 2 → σ' 33 0 = nI f → σ' 33 1 = nI p → G σ') : ME g (d + 4) M_X5_findPlan [vR 23, vI (nI p), vI (nI f)] σ (qV G) := by
  have hh : 0 < h := by omega
  have hl0 : ∀ i, i < h → 0 ≤ (la i).toInt ∧ (la i).toInt ≤ 20 := fun i hi => ⟨by have := (hl i hi).1; omega, (hl i hi).2⟩
  have fr0 : FrS σ (sU σ 23 17 (-9)) := ⟨fun a a23 _ _ _ => sU_o a23, fun j _ _ j17 => by rw [sU_s]; simp [upd, j17]⟩
  have la' : ∀ τ, FrS σ τ → ∀ i, i < h → lsV2 (τ 27 i) (τ 28 i) = la i := fun τ fr i hi => by rw [fr.1 27 (by decide) (by decide) (by decide) (by decide), fr.1 28 (by decide) (by decide) (by decide) (by decide)]; exact hla i hi
  have e5' : ∀ τ, FrS σ τ → τ 23 5 = nI h := fun τ fr => by rw [fr.2 5 (by decide) (by decide) (by decide), e5]
  have fin : ∀ (τ : St) (z : Int32), FrS σ τ → FrS σ (sU τ 23 17 z) := fun τ z fr => ⟨fun a a23 a31 a32 a33 => by rw [sU_o a23, fr.1 a a23 a31 a32 a33], fun j j14 j15 j17 => by rw [sU_s]; simp only [upd]; rw [if_neg j17, fr.2 j j14 j15 j17]⟩
  refine ME_of (S_X5_findPlan_0 (nI p) (nI f) σ (S_X5_findPlan_11 (nI p) (nI f) 1 0 _ (brn (by decide) ?_)))
  by_cases ne : p = f
  · refine l_fpH (la := la) (n := 0) (X := 1) (N := 0) h5 hh (by decide) (by decide) hp rfl rfl (e5' _ fr0) (la' _ fr0) hl0 (by decide) (by rw [hit0 (by omega) (by omega)]; simpa using ne) (fun σ1 f1 _ => ?_)
    exact hE ne _ (fin _ _ (fr0.tr f1)) (by rw [sU_s]; rfl)
  · refine l_fpN (la := la) (n := 0) (X := 1) (Y := 1) h5 hh (by decide) (by decide) hp rfl rfl _ (e5' _ fr0) (la' _ fr0) hl0 (Nat.le_refl _) (fun N hN' => ?_) (fun σ1 f1 => ?_) 1 0 _ rfl (FrS.rf _)
    · rw [show N = 0 by omega, hit0 (by omega) (by omega)]
      simpa using ne
    · have g1 := fr0.tr f1
      refine S_X5_findPlan_21 (nI p) (nI f) 1 0 (nI 1) σ1 (brt (by decide) (S_X5_findPlan_11 (nI p) (nI f) _ _ σ1 (brn (by decide) ?_)))
      have ex : (1 : Int32) * σ1 23 5 = nI h := by rw [e5' _ g1]; show nI 1 * nI h = _; rw [pk_mul, Nat.one_mul]
      refine l_fpN (la := la) (n := 1) (X := h) (Y := h) h5 hh (by decide) (by omega) hp ex rfl _ (e5' _ g1) (la' _ g1) hl0 (Nat.le_refl _) (fun N hN' => hit1 (by omega) (by omega) ne) (fun σ2 f2 => ?_) h 0 _ (by omega) (FrS.rf _)
      have g2 := g1.tr f2
      refine S_X5_findPlan_21 (nI p) (nI f) _ _ (nI h) σ2 (brt (by rw [ex]; exact nI_le (Nat.le_refl _) (by omega)) (S_X5_findPlan_11 (nI p) (nI f) _ _ σ2 (brn (by decide) ?_)))
      have ex2 : (1 : Int32) * σ1 23 5 * σ2 23 5 = nI (h * h) := by rw [ex, e5' _ g2, pk_mul]
      have hb : f * h + p < h * h := by
        have : (f + 1) * h ≤ h * h := Nat.mul_le_mul_right h (by omega)
        have e : (f + 1) * h = f * h + h := Nat.succ_mul f h
        omega
      have h25 : h * h ≤ 25 := Nat.mul_le_mul h5 h5
      refine l_fpN (la := la) (n := 2) (X := h * h) (Y := f * h + p) h5 hh (by decide) (by omega) hp ex2 rfl _ (e5' _ g2) (la' _ g2) hl0 (by omega) (fun N hN' => ?_) (fun σ3 f3 => ?_) (f * h + p) 0 _ (by omega) (FrS.rf _)
      · rw [hit2 h5 hh (fun i hi => (hl i hi).1) hp hf ne (by omega)]
        simp
        omega
      · have g3 := g2.tr f3
        refine l_fpH (la := la) (n := 2) (X := h * h) (N := f * h + p) h5 hh (by decide) (by omega) hp ex2 rfl (e5' _ g3) (la' _ g3) hl0 hb (by rw [hit2 h5 hh (fun i hi => (hl i hi).1) hp hf ne hb]; simp) (fun σ4 f4 q => ?_)
        refine hN ne _ (fin _ _ (g3.tr f4)) (by rw [sU_s]; rfl) ?_ ?_
        · rw [sU_o (by decide), q 0 (by decide)]
          unfold dig
          rw [show 2 - 1 - 0 = 1 from rfl, Nat.pow_one, Nat.mul_comm f h, Nat.mul_add_div hh, Nat.div_eq_of_lt hp, Nat.add_zero, Nat.mod_eq_of_lt hf]
        · rw [sU_o (by decide), q 1 (by decide)]
          unfold dig
          rw [show 2 - 1 - 1 = 0 from rfl, Nat.pow_zero, Nat.div_one, Nat.mul_comm f h, Nat.mul_add_mod, Nat.mod_eq_of_lt hp]
theorem st_plan (p f k : Int32) (hR : Rel σ) : Dbl g (d + 5) M_X4_plan M_X5_plan [vI p, vI f, vI k] σ := by
  obtain ⟨h, c, hC, hN⟩ := hR.2.1
  obtain ⟨h5, e10, e23, hc⟩ := id hC
  by_cases hp : inR p 0 ((h : Int) - 1)
  · by_cases hf : inR f 0 ((h : Int) - 1)
    · by_cases hk : inR k (-1) 5
      · obtain ⟨p', rfl, hp3, pb⟩ := toN hp
        obtain ⟨f', rfl, hf3, fb⟩ := toN hf
        have vp := nI_v pb
        have vf := nI_v fb
        have eqv : (nI p' = nI f') ↔ p' = f' := nI_eq (by omega) (by omega)
        have fs : ∀ τ, FrS σ τ → Rel τ := fun τ fr => Rel_fin hR (⟨fun _ _ _ _ _ _ _ => rfl, rfl⟩ : FrC σ σ) ⟨fun a a23 a31 a32 a33 => fr.1 a a23 a31 a32 a33, fr.2 1 (by decide) (by decide) (by decide), fr.2 5 (by decide) (by decide) (by decide), fr.2 18 (by decide) (by decide) (by decide)⟩ rfl (by rw [fr.2 0 (by decide) (by decide) (by decide), hR.2.2.2])
        -- the reference's answer
        have md : ∀ r : Int32, (k = -1 → r = if p' = f' then 0 else 2) → (¬ k = -1 → r = if p' = f' ∨ 1 < k.toInt then -9 else if k = 0 then nI f' else nI p') → ME g (d + 5) M_X5_plan [vR 23, vI (nI p'), vI (nI f'), vI k] σ (qI fun r2 σ2 => r = r2 ∧ Rel σ2) := by
          intro r r1 r2
          refine ME_of (S_X5_plan_0 (nI p') (nI f') k σ (isHead_t h5 e23 hp (b1p (isHead_t h5 e23 hf (b1n (within_t hk (b1n (m_findPlan (la := laC σ) h5 (by omega) (by omega) e23 (fun i hi => by rw [← (hc i hi).1, ← (hc i hi).2.1]) (fun i hi => lsV2_in (hc i hi).2.2.2.1 (hc i hi).2.2.2.2.1) (fun e τ fr q => ?_) (fun e τ fr q q0 q1 => ?_)))))))))
          · rw [q]
            refine ⟨fun a => ?_, fun a => ?_⟩
            · have := r2 a
              rw [if_pos (Or.inl e)] at this
              refine brt ?_ ⟨this, fs τ fr⟩
              rw [fa_le]
              have : ¬ k.toInt = -1 := fun z => a ((fa_eq _ _).mpr z)
              have z0 : (0 : Int32).toInt = 0 := rfl
              omega
            · have := r1 a
              rw [if_pos e] at this
              exact ⟨this, fs τ fr⟩
          · rw [q]
            have z2 : (2 : Int32).toInt = 2 := rfl
            refine ⟨fun a => ?_, fun a => ?_⟩
            · have rr := r2 a
              have a1 : ¬ k.toInt = -1 := fun z => a ((fa_eq _ _).mpr z)
              refine ⟨fun b => ?_, fun b => ?_⟩
              · rw [fa_le, z2] at b
                rw [if_pos (Or.inr (by omega))] at rr
                exact ⟨rr, fs τ fr⟩
              · rw [fa_le, z2] at b
                rw [if_neg (by omega)] at rr
                obtain ⟨k', rfl, hk3, kb⟩ := toN (x := k) (hi := 1) ⟨by omega, by omega⟩
                refine ⟨vp_in_nI (by omega) (by decide), ?_, fs τ fr⟩
                rw [cl_n k' kb, rr]
                rcases (show k' = 0 ∨ k' = 1 by omega) with rfl | rfl
                · rw [if_pos (show nI 0 = 0 from rfl), q0]
                · rw [if_neg (show ¬ nI 1 = 0 by decide), q1]
            · have rr := r1 a
              rw [if_neg e] at rr
              exact ⟨rr, fs τ fr⟩
        refine ME_of (S_X4_plan_0 (nI p') (nI f') k σ (has_t h5 e10 hp (b1p (has_t h5 e10 hf (b1n (brn ?_ (brt ?_ ⟨fun a => ⟨fun b => md _ (fun z => absurd z a) (fun _ => ?_), fun b => ⟨fun e => ⟨fun q => md _ (fun z => absurd z a) (fun _ => ?_), fun q => md _ (fun z => absurd z a) (fun _ => ?_)⟩, fun e => md _ (fun z => absurd z a) (fun _ => ?_)⟩⟩, fun a => ⟨fun b => md _ (fun _ => ?_) (fun z => absurd a z), fun b => md _ (fun _ => ?_) (fun z => absurd a z)⟩⟩)))))))
        · rw [fa_lt, tm1]; omega
        · rw [fa_lt]; show k.toInt < 6; omega
        · rw [if_pos (Or.inl (eqv.mp b))]
        · have e' : k.toInt ≤ 1 := (fa_le _ _).mp e
          rw [if_neg (fun z => z.elim (fun w => b (eqv.mpr w)) (fun w => by omega)), if_neg q]
        · have e' : k.toInt ≤ 1 := (fa_le _ _).mp e
          rw [if_neg (fun z => z.elim (fun w => b (eqv.mpr w)) (fun w => by omega)), if_pos q]
        · have e' : ¬ k.toInt ≤ 1 := fun z => e ((fa_le _ _).mpr z)
          rw [if_pos (Or.inr (by omega))]
        · rw [if_neg (fun z => b (eqv.mpr z))]
        · rw [if_pos (eqv.mp b)]
      · have md : ME g (d + 5) M_X5_plan [vR 23, vI p, vI f, vI k] σ (qI fun r2 σ2 => -2 = r2 ∧ Rel σ2) := ME_of (S_X5_plan_0 p f k σ (isHead_t h5 e23 hp (b1p (isHead_t h5 e23 hf (b1n (within_f hk (b0n ⟨rfl, hR⟩)))))))
        refine ME_of (S_X4_plan_0 p f k σ (has_t h5 e10 hp (b1p (has_t h5 e10 hf (b1n ⟨fun a => md, fun a => brn ?_ md⟩)))))
        rw [fa_lt, tm1] at a
        rw [fa_lt]
        show ¬ k.toInt < 6
        omega
    · exact ME_of (S_X4_plan_0 p f k σ (has_t h5 e10 hp (b1p (has_f h5 e10 hf (b0n (ME_of (S_X5_plan_0 p f k σ (isHead_t h5 e23 hp (b1p (isHead_f h5 e23 hf (b0n ⟨rfl, hR⟩)))))))))))
  · exact ME_of (S_X4_plan_0 p f k σ (has_f h5 e10 hp (b0p (ME_of (S_X5_plan_0 p f k σ (isHead_f h5 e23 hp (b0p ⟨rfl, hR⟩)))))))
end PLAN
