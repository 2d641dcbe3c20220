/-! odds: both count the rows, the class by going and taking back, the reference by number -/
def smF (f : Nat → Nat) : Nat → Nat → Nat
  | 0, _ => 0
  | m + 1, q => f q + smF f m (q + 1)
def cntF (la : Nat → Int32) (h p f : Nat) : Nat → HS → Nat
  | 0, x => if x.1 p = nI f then 1 else 0
  | L + 1, x => smF (fun q => match hStep la x q with
    | none => 0
    | some x' => cntF la h p f L x') h 0
theorem smF_cong {f g : Nat → Nat} : ∀ (m q : Nat), (∀ i, q ≤ i → i < q + m → f i = g i) → smF f m q = smF g m q
  | 0, _, _ => rfl
  | m + 1, q, e => by rw [smF, smF, e q (by omega) (by omega), smF_cong m (q + 1) (fun i h1 h2 => e i (by omega) (by omega))]
theorem smF_add (f : Nat → Nat) : ∀ (m n q : Nat), smF f (m + n) q = smF f m q + smF f n (q + m)
  | 0, n, q => by rw [Nat.zero_add, smF, Nat.zero_add, Nat.add_zero]
  | m + 1, n, q => by
    rw [show m + 1 + n = (m + n) + 1 by omega, smF, smF, smF_add f m n (q + 1), show q + 1 + m = q + (m + 1) by omega]
    omega
theorem smF_sh (f : Nat → Nat) (s : Nat) : ∀ (m q : Nat), smF f m (s + q) = smF (fun i => f (s + i)) m q
  | 0, _ => rfl
  | m + 1, q => by rw [smF, smF, show s + q + 1 = s + (q + 1) by omega, smF_sh f s m (q + 1)]
theorem smF_le {f : Nat → Nat} {c : Nat} : ∀ (m q : Nat), (∀ i, q ≤ i → i < q + m → f i ≤ c) → smF f m q ≤ m * c
  | 0, _, _ => by rw [smF]; exact Nat.zero_le _
  | m + 1, q, e => by
    have h1 := e q (by omega) (by omega)
    have h2 := smF_le m (q + 1) (fun i h1 h2 => e i (by omega) (by omega))
    rw [smF, Nat.succ_mul]
    omega
/-- a sum over all numbers, by their first digit -/
theorem smF_mul (f : Nat → Nat) (H : Nat) : ∀ (h q : Nat), smF f (h * H) (q * H) = smF (fun a => smF (fun b => f (a * H + b)) H 0) h q
  | 0, q => by rw [Nat.zero_mul, smF, smF]
  | h + 1, q => by
    rw [Nat.succ_mul, Nat.add_comm (h * H) H, smF_add, smF, ← smF_mul f H h (q + 1), Nat.succ_mul]
    congr 1
    have := smF_sh f (q * H) H 0
    rw [Nat.add_zero] at this
    exact this
theorem cntF_le {la : Nat → Int32} {h p f : Nat} : ∀ (L : Nat) (x : HS), cntF la h p f L x ≤ h ^ L
  | 0, x => by
    rw [cntF, Nat.pow_zero]
    split <;> omega
  | L + 1, x => by
    rw [cntF, Nat.pow_succ, Nat.mul_comm]
    refine smF_le h 0 (fun i _ _ => ?_)
    cases e : hStep la x i with
    | none => exact Nat.zero_le _
    | some x' => exact cntF_le L x'
/-- visits without the place of a wrong one -/
def goO (la : Nat → Int32) (r : Nat → Nat) : Nat → Nat → HS → Option HS
  | 0, _, x => some x
  | n + 1, k, x => match hStep la x (r k) with
    | none => none
    | some x' => goO la r n (k + 1) x'
theorem goO_sh {la : Nat → Int32} {r r' : Nat → Nat} : ∀ (n k k' : Nat) (x : HS), (∀ v, v < n → r (k + v) = r' (k' + v)) → goO la r n k x = goO la r' n k' x
  | 0, _, _, _, _ => rfl
  | n + 1, k, k', x, e => by
    have e0 := e 0 (by omega)
    rw [Nat.add_zero, Nat.add_zero] at e0
    rw [goO, goO, e0]
    cases hStep la x (r' k') with
    | none => rfl
    | some x' => exact goO_sh n (k + 1) (k' + 1) x' (fun v hv => by rw [show k + 1 + v = k + (v + 1) by omega, show k' + 1 + v = k' + (v + 1) by omega]; exact e (v + 1) (by omega))
theorem goF_O {la : Nat → Int32} {r : Nat → Nat} : ∀ (n k : Nat) (x : HS), goO la r n k x = (match goF la r n k x with
    | .inl _ => none
    | .inr y => some y)
  | 0, _, _ => rfl
  | n + 1, k, x => by
    rw [goO, goF]
    cases hStep la x (r k) with
    | none => rfl
    | some x' => exact goF_O n (k + 1) x'
def hitO (la : Nat → Int32) (h n p f N : Nat) (x : HS) : Nat := match goO la (dig h n N) n 0 x with
  | none => 0
  | some y => if y.1 p = nI f then 1 else 0
theorem dig_0 {h n a b : Nat} (ha : a < h) (hb : b < h ^ n) : dig h (n + 1) (a * h ^ n + b) 0 = a := by
  unfold dig
  rw [show n + 1 - 1 - 0 = n by omega, Nat.mul_comm a, Nat.mul_add_div (Nat.lt_of_le_of_lt (Nat.zero_le b) hb), Nat.div_eq_of_lt hb, Nat.add_zero, Nat.mod_eq_of_lt ha]
theorem dig_s {h n a b v : Nat} (hh : 0 < h) (hv : v < n) : dig h (n + 1) (a * h ^ n + b) (1 + v) = dig h n b v := by
  unfold dig
  rw [show n + 1 - 1 - (1 + v) = n - 1 - v by omega]
  have e : h ^ n = h ^ (n - 1 - v) * (h ^ v * h) := by
    rw [← Nat.pow_succ, ← Nat.pow_add]
    congr 1
    omega
  rw [e, ← Nat.mul_assoc, Nat.mul_comm a, Nat.mul_assoc, Nat.mul_add_div (Nat.pow_pos hh), Nat.mul_comm (a) _, Nat.mul_comm (h ^ v) h, Nat.mul_assoc, Nat.mul_add_mod]
/-- counting by number is counting by going -/
theorem cnt_eq {la : Nat → Int32} {h p f : Nat} (hh : 0 < h) : ∀ (n : Nat) (x : HS), smF (fun N => hitO la h n p f N x) (h ^ n) 0 = cntF la h p f n x
  | 0, x => by
    rw [Nat.pow_zero, smF, smF, cntF]
    rfl
  | n + 1, x => by
    have := smF_mul (fun N => hitO la h (n + 1) p f N x) (h ^ n) h 0
    rw [Nat.zero_mul] at this
    rw [Nat.pow_succ, Nat.mul_comm, this, cntF]
    refine smF_cong h 0 (fun a _ ha => ?_)
    have ha : a < h := by omega
    show smF (fun b => hitO la h (n + 1) p f (a * h ^ n + b) x) (h ^ n) 0 = _
    have step : ∀ b, b < h ^ n → hitO la h (n + 1) p f (a * h ^ n + b) x = (match hStep la x a with
        | none => 0
        | some x' => hitO la h n p f b x') := fun b hb => by
      unfold hitO
      rw [goO, dig_0 ha hb]
      cases e : hStep la x a with
      | none => rfl
      | some x' =>
        show (match goO la (dig h (n + 1) (a * h ^ n + b)) n (0 + 1) x' with | none => 0 | some y => if y.1 p = nI f then 1 else 0) = _
        rw [goO_sh (r' := dig h n b) n (0 + 1) 0 x' (fun v hv => by rw [Nat.zero_add, Nat.zero_add]; exact dig_s hh hv)]
    rw [smF_cong (h ^ n) 0 (g := fun b => match hStep la x a with | none => 0 | some x' => hitO la h n p f b x') (fun b _ hb => step b (by omega))]
    cases e : hStep la x a with
    | none =>
      have : ∀ m q, smF (fun _ => 0) m q = 0 := by
        intro m
        induction m with
        | zero => intro q; rfl
        | succ m ih => intro q; rw [smF, ih]
      exact this _ _
    | some x' => exact cnt_eq hh n x'
/-! Euclid -/
def gdF : Nat → Nat → Nat → Nat
  | 0, x, _ => x
  | m + 1, x, y => if y = 0 then x else gdF m y (x % y)
theorem gd_0 : ∀ (m x : Nat), gdF m x 0 = x
  | 0, _ => rfl
  | m + 1, x => by rw [gdF, if_pos rfl]
theorem gd_ok : ∀ (k m x y : Nat), y < 2 ^ k → 2 * k ≤ m → gdF m x y = Nat.gcd x y
  | 0, m, x, y, hy, hm => by
    have : y = 0 := by rw [Nat.pow_zero] at hy; omega
    subst this
    rw [gd_0, Nat.gcd_zero_right]
  | k + 1, m, x, y, hy, hm => by
    by_cases y0 : y = 0
    · subst y0
      rw [gd_0, Nat.gcd_zero_right]
    · obtain ⟨m', rfl⟩ : ∃ m', m = m' + 2 := ⟨m - 2, by omega⟩
      rw [gdF, if_neg y0]
      have g1 : Nat.gcd x y = Nat.gcd y (x % y) := by rw [Nat.gcd_comm x y, Nat.gcd_rec y x, Nat.gcd_comm]
      by_cases r0 : x % y = 0
      · rw [r0, gd_0, g1, r0, Nat.gcd_zero_right]
      · rw [gdF, if_neg r0]
        have hr := Nat.mod_lt x (Nat.pos_of_ne_zero y0)
        have hr2 := Nat.mod_lt y (Nat.pos_of_ne_zero r0)
        have hle : x % y + y % (x % y) ≤ y := by
          have e := Nat.div_add_mod y (x % y)
          have q : 1 ≤ y / (x % y) := Nat.div_pos (Nat.le_of_lt hr) (Nat.pos_of_ne_zero r0)
          have q2 := Nat.mul_le_mul_left (x % y) q
          omega
        rw [gd_ok k m' (x % y) (y % (x % y)) (by rw [Nat.pow_succ] at hy; omega) (by omega), g1, Nat.gcd_comm y (x % y), Nat.gcd_rec (x % y) y, Nat.gcd_comm]
section ODDS
variable {g : GG} {d h : Nat} {σ : St} {la : Nat → Int32} {F : Int32 → St → Prop}
theorem AgC_ext {x y : HS} (hA : AgC σ h la x) (e1 : ∀ i, i < h → x.1 i = y.1 i) (e2 : ∀ i, i < h → x.2.1 i = y.2.1 i) (e3 : x.2.2 = y.2.2) : AgC σ h la y := ⟨hA.1, hA.2.1.trans e3, fun i hi => ⟨(hA.2.2 i hi).1.trans (e1 i hi), (hA.2.2 i hi).2.1.trans (e2 i hi), (hA.2.2 i hi).2.2⟩⟩
/-- the latest visit is taken back -/
theorem m_takesBack {G : St → Prop} {x x' : HS} {q : Nat} (h5 : h ≤ 5) (hq : q < h) (hW : WfH h la x) (hA : AgC σ h la x') (e : hStep la x q = some x') (hF : ∀ σ', AgC σ' h la x → FrH σ σ' → G σ') : ME g (d + 1) M_X1_takesBack [vR 14, vI (nI q)] σ (qV G) := by
  refine ME_of (S_X1_takesBack_0 (nI q) σ (m_changeP (by omega) ?_))
  have hc := AgC_ch hq hA (w := upd x'.1 q x'.2.2) (z := x'.1 q) rfl rfl
  have fr1 : FrH σ (sU (sU σ 15 q (σ 14 4)) 14 4 (σ 15 q)) := fun b b1 b2 _ _ => by rw [sU_o b1, sU_o b2]
  generalize hτ : sU (sU σ 15 q (σ 14 4)) 14 4 (σ 15 q) = τ at hc fr1 ⊢
  have e4 : τ 14 4 = x'.1 q := hc.2.1
  unfold hStep at e
  by_cases g9 : x.2.2 = -9
  · rw [if_pos g9] at e
    cases e
    have z : upd x.1 q (-9) q = -9 := by simp [upd]
    have e4 : τ 14 4 = -9 := e4.trans z
    refine brt e4 (hF τ (AgC_ext hc (fun i hi => ?_) (fun _ _ => rfl) ?_) fr1)
    · show upd (upd x.1 q (-9)) q (x.1 q) i = x.1 i
      simp only [upd]
      by_cases iq : i = q
      · rw [if_pos iq, iq]
      · rw [if_neg iq, if_neg iq]
    · show upd x.1 q (-9) q = x.2.2
      rw [z, g9]
  · rw [if_neg g9] at e
    have g1 := hW.1.resolve_left g9
    have cl := cl_lt g1
    by_cases hl : x.2.1 x.2.2.toNatClampNeg < la x.2.2.toNatClampNeg
    · rw [if_pos hl] at e
      cases e
      have z : upd x.1 q x.2.2 q = x.2.2 := by simp [upd]
      have e4 : τ 14 4 = x.2.2 := e4.trans z
      rw [e4]
      refine brn g9 ⟨inR_in g1 (by omega), ?_⟩
      have hc2 := AgC_tk (c := x.2.2.toNatClampNeg) (v := τ 16 x.2.2.toNatClampNeg - 1) hc
      refine hF _ (AgC_ext hc2 (fun i hi => ?_) (fun i hi => ?_) ?_) (fr1.tr (fun b _ _ b3 _ => by rw [sU_o b3]))
      · show upd (upd x.1 q x.2.2) q (x.1 q) i = x.1 i
        simp only [upd]
        by_cases iq : i = q
        · rw [if_pos iq, iq]
        · rw [if_neg iq, if_neg iq]
      · show upd (upd x.2.1 x.2.2.toNatClampNeg (x.2.1 x.2.2.toNatClampNeg + 1)) x.2.2.toNatClampNeg (τ 16 x.2.2.toNatClampNeg - 1) i = x.2.1 i
        have t16 : τ 16 x.2.2.toNatClampNeg = x.2.1 x.2.2.toNatClampNeg + 1 := by
          have := (hc.2.2 _ cl).2.1
          rw [this]
          show upd x.2.1 x.2.2.toNatClampNeg (x.2.1 x.2.2.toNatClampNeg + 1) x.2.2.toNatClampNeg = _
          simp [upd]
        rw [t16]
        simp only [upd]
        by_cases ic : i = x.2.2.toNatClampNeg
        · rw [if_pos ic, ic]
          exact Int32.add_sub_cancel _ _
        · rw [if_neg ic, if_neg ic]
      · show upd x.1 q x.2.2 q = x.2.2
        exact z
    · rw [if_neg hl] at e
      cases e
theorem m_rowsTo {p f : Nat} (h5 : h ≤ 5) (hp : p < h) : ∀ (L : Nat) (x : HS) (σ : St) (F : Int32 → St → Prop), L ≤ 5 → AgC σ h la x → WfH h la x → (∀ σ', AgC σ' h la x → FrH σ σ' → F (nI (cntF la h p f L x)) σ') → ME g (d + 2 + L) M_X4_rowsTo [vR 14, vI (nI p), vI (nI f), vI (nI L)] σ (qI F)
  | 0, x, σ, F, hL, hA, hW, hF => by
    refine ME_of (S_X4_rowsTo_0 (nI p) (nI f) (nI 0) σ (brn (by decide) ⟨vp_in_nI (by omega) (by decide), ?_⟩))
    have := hF σ hA (FrH.rf σ)
    rw [cntF] at this
    rw [cl_n p (by omega), (hA.2.2 p hp).1]
    refine ⟨fun q => ?_, fun q => ?_⟩
    · rw [if_neg q] at this; exact this
    · rw [if_pos q] at this; exact this
  | L + 1, x, σ, F, hL, hA, hW, hF => by
    have loop : ∀ (m q : Nat) (acc : Nat) (τ : St), q + m = h → AgC τ h la x → FrH σ τ → acc + smF (fun q => match hStep la x q with | none => 0 | some x' => cntF la h p f L x') m q = cntF la h p f (L + 1) x → VM g (d + 2 + L + 1) M_X4_rowsTo (qI F) 26 [(0, vR 14), (1, vI (nI p)), (2, vI (nI f)), (3, vI (nI (L + 1))), (4, vI (nI acc)), (5, vI (nI q))] [] τ := by
      intro m
      induction m with
      | zero =>
        intro q acc τ hq hA1 fr e
        refine S_X4_rowsTo_26 (nI p) (nI f) (nI (L + 1)) (nI acc) (nI q) τ (brt (by rw [hA1.1]; exact nI_le (by omega) (by omega)) ?_)
        rw [smF, Nat.add_zero] at e
        rw [e]
        exact hF τ hA1 fr
      | succ m ih =>
        intro q acc τ hq hA1 fr e
        refine S_X4_rowsTo_26 (nI p) (nI f) (nI (L + 1)) (nI acc) (nI q) τ (brn (by rw [hA1.1]; exact nI_ge (by omega) (by omega)) ?_)
        rw [nI_1, nI_pred]
        rw [smF] at e
        have lv : d + 2 + L = (d + 1 + L) + 1 := by omega
        rw [lv]
        refine m_receives h5 hA1 hW (show q < h by omega) (fun x' ex τ1 hA2 f2 => b1p ?_) (fun ex => b0p ?_)
        · rw [ex] at e
          rw [← lv]
          refine m_rowsTo h5 hp L x' τ1 _ (by omega) hA2 (hStep_wf hW (by omega) ex) (fun τ2 hA3 f3 => ?_)
          rw [lv]
          refine m_takesBack h5 (show q < h by omega) hW hA3 ex (fun τ3 hA4 f4 => ?_)
          rw [nI_add]
          rw [← lv]
          refine ih (q + 1) (acc + cntF la h p f L x') τ3 (by omega) hA4 (((fr.tr f2).tr f3).tr f4) ?_
          have e : acc + (cntF la h p f L x' + smF (fun q => match hStep la x q with | none => 0 | some x' => cntF la h p f L x') m (q + 1)) = cntF la h p f (L + 1) x := e
          omega
        · rw [ex] at e
          rw [← lv]
          refine ih (q + 1) acc τ (by omega) hA1 fr ?_
          have e : acc + (0 + smF (fun q => match hStep la x q with | none => 0 | some x' => cntF la h p f L x') m (q + 1)) = cntF la h p f (L + 1) x := e
          omega
    have := loop h 0 0 σ (by omega) hA (FrH.rf σ) (by rw [Nat.zero_add, cntF])
    exact ME_of (S_X4_rowsTo_0 (nI p) (nI f) (nI (L + 1)) σ (brt (nI_lt (a := 0) (b := L + 1) (by omega) (by omega)) this))
/-- the class's greatest divisor -/
theorem l_gd {a0 b0 R : Nat} (hR : R < 2147483648) (hF : 1 ≤ R → F (nI R) σ) (h1 : 1 ≤ R) : ∀ (m c x y : Nat), c + m = 100 → x < 2147483648 → y < 2147483648 → gdF m x y = R → VM g (d + 1) M_X4_greatestDivisor (qI F) 7 [(0, vI (nI a0)), (1, vI (nI b0)), (2, vI (nI x)), (3, vI (nI y)), (4, vI (nI c))] [] σ := by
  have mx : ∀ x, x = R → F (if nI x < 1 then 1 else nI x) σ := fun x e => by
    subst e
    rw [if_neg (show ¬ nI x < 1 from nI_nlt (a := x) (b := 1) h1 hR)]
    exact hF h1
  intro m
  induction m with
  | zero =>
    intro c x y hc hx hy e
    refine S_X4_greatestDivisor_7 (nI a0) (nI b0) (nI x) (nI y) (nI c) σ (brt (by rw [show c = 100 by omega]; decide) (mx x ?_))
    rw [gdF] at e
    exact e
  | succ m ih =>
    intro c x y hc hx hy e
    rw [gdF] at e
    refine S_X4_greatestDivisor_7 (nI a0) (nI b0) (nI x) (nI y) (nI c) σ (brn (nI_ge (a := c) (b := 100) (by omega) (by decide)) ⟨fun q => mx x ?_, fun q => ⟨q, ?_⟩⟩)
    · have : y = 0 := (nI_eq (b := 0) hy (by decide)).mp q
      rw [if_pos this] at e
      exact e
    · have y0 : ¬ y = 0 := fun z => q (by rw [z]; rfl)
      rw [if_neg y0] at e
      rw [pk_rem hx (Nat.pos_of_ne_zero y0) hy, nI_1]
      exact ih (c + 1) y (x % y) (by omega) hy (Nat.lt_of_le_of_lt (Nat.mod_le x y) hx) e
theorem m_gd {a b : Nat} (ha : a < 4096) (hb : b < 2147483648) (hb0 : 0 < b) (hF : F (nI (Nat.gcd b a)) σ) : ME g (d + 1) M_X4_greatestDivisor [vI (nI a), vI (nI b)] σ (qI F) := by
  have g1 : 1 ≤ Nat.gcd b a := Nat.gcd_pos_of_pos_left a hb0
  have g2 : Nat.gcd b a ≤ b := Nat.gcd_le_left a hb0
  exact ME_of (S_X4_greatestDivisor_0 (nI a) (nI b) σ (l_gd (by omega) (fun _ => hF) g1 100 0 b a rfl hb (by omega) (gd_ok 12 100 b a (by omega) (by decide))))
theorem lcmp0 {y : Nat} (hy : y < 2 ^ 63) : (lg_cmp (lN y) 0 = 0) ↔ y = 0 := by
  have e : (lN y = lN 0) ↔ y = 0 := pk_lEQ hy (by decide)
  rw [lg_cmp_eq]
  exact e
theorem l_ilt {G : Int64 → St → Prop} {u D R : Nat} {w : Int32} (h1 : 1 ≤ R) (hR : R < 2 ^ 63) (hu : u < 2 ^ 63) (hD : D < 2 ^ 63) (hF0 : w = 0 → G (lN (u / R)) σ) (hF1 : ¬ w = 0 → G (lN (D / R)) σ) : ∀ (n x y : Nat), y < n → x < 2 ^ 63 → y < 2 ^ 63 → Nat.gcd x y = R → VM g d M_X5_inLeastTerms (qL G) 6 [(0, vL (lN u)), (2, vL (lN D)), (4, vI w), (5, vL (lN x)), (7, vL (lN y))] [] σ
  | 0, x, y, hn, _, _, _ => by omega
  | n + 1, x, y, hn, hx, hy, e => by
    refine S_X5_inLeastTerms_6 (lN u) (lN D) w (lN x) (lN y) σ ⟨fun q => ?_, fun q => ⟨fun z => q (by rw [z]; decide), ?_⟩⟩
    · have y0 : y = 0 := (lcmp0 hy).mp q
      subst y0
      rw [Nat.gcd_zero_right] at e
      subst e
      have ne : ¬ lN x = 0 := fun z => by
        have := (pk_lEQ (b := 0) hx (by decide)).mp z
        omega
      rw [pk_lDiv hu h1 hx, pk_lDiv hD h1 hx]
      exact ⟨fun a => ⟨ne, hF1 a⟩, fun a => ⟨ne, hF0 a⟩⟩
    · have y0 : ¬ y = 0 := fun z => q ((lcmp0 hy).mpr z)
      rw [pk_lRem hx (Nat.pos_of_ne_zero y0) hy]
      have hr := Nat.mod_lt x (Nat.pos_of_ne_zero y0)
      refine l_ilt h1 hR hu hD hF0 hF1 n y (x % y) (by omega) hy (by omega) ?_
      rw [← e, Nat.gcd_comm x y, Nat.gcd_rec y x, Nat.gcd_comm]
theorem m_ilt {G : Int64 → St → Prop} {u D : Nat} {w : Int32} (hu : u < 2147483648) (hD : D < 2147483648) (hD0 : 0 < D) (hF0 : w = 0 → G (lN (u / Nat.gcd D u)) σ) (hF1 : ¬ w = 0 → G (lN (D / Nat.gcd D u)) σ) : ME g d M_X5_inLeastTerms [vL (lN u), vL (lN D), vI w] σ (qL G) := by
  have g1 : 1 ≤ Nat.gcd D u := Nat.gcd_pos_of_pos_left u hD0
  have g2 : Nat.gcd D u ≤ D := Nat.gcd_le_left u hD0
  exact ME_of (S_X5_inLeastTerms_0 (lN u) (lN D) w σ (l_ilt (R := Nat.gcd D u) g1 (by omega) (by omega) (by omega) hF0 hF1 (D + 1) u D (by omega) (by omega) (by omega) (Nat.gcd_comm u D)))
theorem hitO_B {n N p f : Nat} : hitO la h n p f N hs0 = if hitB la h n N p f = true then 1 else 0 := by
  unfold hitO hitB
  rw [goF_O]
  cases goF la (dig h n N) n 0 hs0 with
  | inl k => rfl
  | inr y =>
    show (if y.1 p = nI f then 1 else 0) = if decide (y.1 p = nI f) = true then 1 else 0
    simp
/-- the reference counts -/
theorem l_odds72 {G : Int64 → St → Prop} {n X p f : Nat} {w : Int32} (h5 : h ≤ 5) (hh : 0 < h) (hn : n ≤ 20) (hX : X < 100000) (hp : p < h) (σ0 : St) (e5 : σ0 23 5 = nI h) (hla : ∀ i, i < h → lsV2 (σ0 27 i) (σ0 28 i) = la i) (hl : ∀ i, i < h → 0 ≤ (la i).toInt ∧ (la i).toInt ≤ 20) {T : Nat}
    (hF : ∀ σ', FrS σ0 σ' → ME g (d + 3) M_X5_inLeastTerms [vL (nI T).toInt64, vL (nI X).toInt64, vI w] σ' (qL G)) :
    ∀ (m N acc : Nat) (σ : St), N + m = X → FrS σ0 σ → acc + smF (fun N => hitO la h n p f N hs0) m N = T → VM g (d + 4) M_X5_odds (qL G) 72 [(0, vR 23), (1, vI (nI p)), (2, vI (nI f)), (3, vI (nI n)), (4, vI w), (5, vI (nI X)), (6, vI (nI acc)), (7, vI (nI N))] [] σ
  | 0, N, acc, σ, hN, fr, e => by
    refine S_X5_odds_72 (nI p) (nI f) (nI n) w (nI X) (nI acc) (nI N) σ (brt (nI_le (by omega) (by omega)) ?_)
    rw [smF, Nat.add_zero] at e
    rw [e]
    exact hF σ fr
  | m + 1, N, acc, σ, hN, fr, e => by
    refine S_X5_odds_72 (nI p) (nI f) (nI n) w (nI X) (nI acc) (nI N) σ (brn (nI_ge (by omega) (by omega)) ?_)
    rw [nI_1, cl_n p (by omega), show nI acc + 0 = nI acc from Int32.add_zero _, nI_1]
    rw [smF] at e
    have hb : hitO la h n p f N hs0 = match goF la (dig h n N) n 0 hs0 with
      | .inl _ => 0
      | .inr y => if y.1 p = nI f then 1 else 0 := by
      unfold hitO
      rw [goF_O]
      cases goF la (dig h n N) n 0 hs0 <;> rfl
    refine m_layGo (la := la) h5 hh hn (by omega) (by rw [fr.2 5 (by decide) (by decide) (by decide), e5]) (fun i hi => by rw [fr.1 27 (by decide) (by decide) (by decide) (by decide), fr.1 28 (by decide) (by decide) (by decide) (by decide)]; exact hla i hi) hl (fun k ek hk σ1 f1 _ => brn' ?_ ?_) (fun y ek σ1 hA f1 _ => brt' rfl ⟨vp_in_nI (by omega) (by decide), ?_⟩)
    · rw [fa_eq, tm9, nI_v (by omega)]; omega
    · rw [ek] at hb
      exact l_odds72 h5 hh hn hX hp σ0 e5 hla hl hF m (N + 1) acc σ1 (by omega) (fr.tr f1) (by have hb : hitO la h n p f N hs0 = 0 := hb; omega)
    · rw [ek] at hb
      have hb : hitO la h n p f N hs0 = if y.1 p = nI f then 1 else 0 := hb
      rw [(hA.2.2 p hp).1]
      refine ⟨fun q => ?_, fun q => ?_⟩
      · rw [if_neg q] at hb
        exact l_odds72 h5 hh hn hX hp σ0 e5 hla hl hF m (N + 1) acc σ1 (by omega) (fr.tr f1) (by omega)
      · rw [if_pos q] at hb
        exact l_odds72 h5 hh hn hX hp σ0 e5 hla hl hF m (N + 1) (acc + 1) σ1 (by omega) (fr.tr f1) (by omega)
theorem l_odds45 {G : Int64 → St → Prop} {n : Nat} {x1 x2 w : Int32} (h5 : h ≤ 5) (hn : n ≤ 5) (e5 : σ 23 5 = nI h) (hF : VM g (d + 4) M_X5_odds (qL G) 72 [(0, vR 23), (1, vI x1), (2, vI x2), (3, vI (nI n)), (4, vI w), (5, vI (nI (h ^ n))), (6, vI 0), (7, vI 0)] [] σ) :
    ∀ (m k : Nat), k + m = n → VM g (d + 4) M_X5_odds (qL G) 45 [(0, vR 23), (1, vI x1), (2, vI x2), (3, vI (nI n)), (4, vI w), (5, vI (nI (h ^ k))), (6, vI (nI k))] [] σ
  | 0, k, hk => by
    refine S_X5_odds_45 x1 x2 (nI n) w (nI (h ^ k)) (nI k) σ (brt (nI_le (by omega) (by omega)) ?_)
    rw [show k = n by omega]
    exact hF
  | m + 1, k, hk => by
    refine S_X5_odds_45 x1 x2 (nI n) w (nI (h ^ k)) (nI k) σ (brn (nI_ge (by omega) (by omega)) ?_)
    rw [e5, pk_mul, ← Nat.pow_succ, nI_1]
    exact l_odds45 h5 hn e5 hF m (k + 1) (by omega)
theorem l_odds56 {G : Int64 → St → Prop} {n : Nat} {x1 x2 w : Int32} (h5 : h ≤ 5) (hn : n ≤ 5) (e10 : σ 10 3 = nI h) (hF : (ME g (d + 7) M_X1_open [vR 14, vR 10] σ (qV (fun σ3 => (ME g (d + 7) M_X4_rowsTo [vR 14, vI x1, vI x2, vI (nI n)] σ3 (qI (fun r5 σ6 => (ME g (d + 7) M_X4_greatestDivisor [vI r5, vI (nI (h ^ n))] σ6 (qI (fun r8 σ9 => ((¬ w = 0 → (¬ r8 = 0 ∧ G ((nI (h ^ n) / r8).toInt64) σ9)) ∧ (w = 0 → (¬ r8 = 0 ∧ G ((r5 / r8).toInt64) σ9))))))))))))) :
    ∀ (m k : Nat), k + m = n → VM g (d + 8) M_X4_odds (qL G) 56 [(0, vR 0), (1, vI x1), (2, vI x2), (3, vI (nI n)), (4, vI w), (5, vI (nI (h ^ k))), (6, vI (nI k))] [] σ
  | 0, k, hk => by
    refine S_X4_odds_56 x1 x2 (nI n) w (nI (h ^ k)) (nI k) σ (brt (nI_le (by omega) (by omega)) ?_)
    rw [show k = n by omega]
    exact hF
  | m + 1, k, hk => by
    refine S_X4_odds_56 x1 x2 (nI n) w (nI (h ^ k)) (nI k) σ (brn (nI_ge (by omega) (by omega)) ?_)
    rw [e10, pk_mul, ← Nat.pow_succ, nI_1]
    exact l_odds56 h5 hn e10 hF m (k + 1) (by omega)
theorem pow_le5 (h5 : h ≤ 5) (n : Nat) (hn : n ≤ 5) : h ^ n ≤ 3125 := Nat.le_trans (Nat.pow_le_pow_left h5 n) (Nat.pow_le_pow_right (by decide) hn)
theorem st_odds (p f n w : Int32) (hR : Rel σ) : DblL g (d + 8) M_X4_odds M_X5_odds [vI p, vI f, vI n, vI w] σ := by
  obtain ⟨h, c, hC, hN⟩ := hR.2.1
  obtain ⟨h5, e10, e23, hc⟩ := id hC
  have z0 : (0 : Int32).toInt = 0 := rfl
  have z1 : (1 : Int32).toInt = 1 := rfl
  have z5 : (5 : Int32).toInt = 5 := rfl
  by_cases hp : inR p 0 ((h : Int) - 1)
  · by_cases hf : inR f 0 ((h : Int) - 1)
    · by_cases hn : inR n 0 5
      · by_cases hw : inR w 0 1
        · obtain ⟨p', rfl, hp3, pb⟩ := toN hp
          obtain ⟨f', rfl, hf3, fb⟩ := toN hf
          obtain ⟨n', rfl, hn3, nb⟩ := toN hn
          have hh : 0 < h := by omega
          have hpl : p' < h := by omega
          have n5 : n' ≤ 5 := by omega
          have hX := pow_le5 h5 n' n5
          have hX0 : 0 < h ^ n' := Nat.pow_pos hh
          have hcnt := cntF_le (la := laC σ) (h := h) (p := p') (f := f') n' hs0
          have hW : WfH h (laC σ) hs0 := hs0_wf h5 (la_in (fun i hi => ⟨(hc i hi).2.2.2.1, (hc i hi).2.2.2.2.1⟩))
          have g1 : 1 ≤ Nat.gcd (h ^ n') (cntF (laC σ) h p' f' n' hs0) := Nat.gcd_pos_of_pos_left _ hX0
          have g2 := Nat.gcd_le_left (cntF (laC σ) h p' f' n' hs0) hX0
          -- the reference
          have md : ∀ (τ : St) (R : Int64), FrH σ τ → (w = 0 → R = lN (cntF (laC σ) h p' f' n' hs0 / Nat.gcd (h ^ n') (cntF (laC σ) h p' f' n' hs0))) → (¬ w = 0 → R = lN (h ^ n' / Nat.gcd (h ^ n') (cntF (laC σ) h p' f' n' hs0))) → ME g (d + 8) M_X5_odds [vR 23, vI (nI p'), vI (nI f'), vI (nI n'), vI w] τ (qL fun r2 σ2 => R = r2 ∧ Rel σ2) := by
            intro τ R fr R0 R1
            have t23 : τ 23 5 = nI h := by rw [fr 23 (by decide) (by decide) (by decide) (by decide), e23]
            refine ME_of (S_X5_odds_0 (nI p') (nI f') (nI n') w τ (isHead_t h5 t23 hp (b1p (isHead_t h5 t23 hf (b1p (within_t hn (b1p (within_t hw (b1n ?_)))))))))
            refine l_odds45 (d := d + 4) h5 n5 t23 ?_ n' 0 (by omega)
            refine l_odds72 (d := d + 4) (la := laC σ) (T := cntF (laC σ) h p' f' n' hs0) h5 hh (by omega) (by omega) hpl τ t23 (fun i hi => ?_) (la_in (fun i hi => ⟨(hc i hi).2.2.2.1, (hc i hi).2.2.2.2.1⟩)) (fun σ2 f2 => ?_) (h ^ n') 0 0 τ (by omega) (FrS.rf τ) (by rw [Nat.zero_add]; exact cnt_eq hh n' hs0)
            · rw [fr 27 (by decide) (by decide) (by decide) (by decide), fr 28 (by decide) (by decide) (by decide) (by decide), ← (hc i hi).1, ← (hc i hi).2.1]
            · have rel : Rel σ2 := Rel_fin (z := σ 0 7) hR (⟨fun a _ a14 a15 a16 a17 _ => fr a a14 a15 a16 a17, by rw [fr 0 (by decide) (by decide) (by decide) (by decide)]⟩ : FrC σ τ) ⟨fun a a23 a31 a32 a33 => f2.1 a a23 a31 a32 a33, f2.2 1 (by decide) (by decide) (by decide), f2.2 5 (by decide) (by decide) (by decide), f2.2 18 (by decide) (by decide) (by decide)⟩ (by rw [fr 0 (by decide) (by decide) (by decide) (by decide)]) (by rw [f2.2 0 (by decide) (by decide) (by decide), fr 23 (by decide) (by decide) (by decide) (by decide), hR.2.2.2])
              rw [nI_l (by omega), nI_l (by omega)]
              exact m_ilt (by omega) (by omega) hX0 (fun a => ⟨R0 a, rel⟩) (fun a => ⟨R1 a, rel⟩)
          refine ME_of (S_X4_odds_0 (nI p') (nI f') (nI n') w σ (has_t h5 e10 hp (b1p (has_t h5 e10 hf (b1n (brn (by rw [fa_lt, z0]; omega) (brn (by rw [fa_lt, z5]; omega) (brn (by rw [fa_lt, z0]; omega) (brt (by rw [fa_le, z1]; omega) ?_)))))))))
          refine l_odds56 h5 n5 e10 ?_ n' 0 (by omega)
          refine m_open h5 e10 (fun i hi => (hc i hi).2.2.2.1) (fun σ1 hA f1 => ?_)
          have lv : d + 7 = (d + 5 - n') + 2 + n' := by omega
          have rt := fun F' hF' => m_rowsTo (g := g) (d := d + 5 - n') (la := laC σ) (p := p') (f := f') h5 hpl n' hs0 σ1 F' n5 hA hW hF'
          rw [← lv] at rt
          refine rt _ (fun σ2 hA2 f2 => ?_)
          refine m_gd (by omega) (by omega) hX0 ?_
          have ne : ¬ nI (Nat.gcd (h ^ n') (cntF (laC σ) h p' f' n' hs0)) = 0 := nI_ne0 g1 (by omega)
          rw [pk_div (by omega) g1 (by omega), pk_div (by omega) g1 (by omega)]
          have dl : ∀ a, a < 2147483648 → (nI a).toInt64 = lN a := fun a ha => nI_l (by omega)
          have q1 : h ^ n' / Nat.gcd (h ^ n') (cntF (laC σ) h p' f' n' hs0) ≤ h ^ n' := Nat.div_le_self _ _
          have q2 : cntF (laC σ) h p' f' n' hs0 / Nat.gcd (h ^ n') (cntF (laC σ) h p' f' n' hs0) ≤ cntF (laC σ) h p' f' n' hs0 := Nat.div_le_self _ _
          rw [dl _ (by omega), dl _ (by omega)]
          exact ⟨fun a => ⟨ne, md σ2 _ (f1.tr f2) (fun z => absurd z a) (fun _ => rfl)⟩, fun a => ⟨ne, md σ2 _ (f1.tr f2) (fun _ => rfl) (fun z => absurd a z)⟩⟩
        · have md : ME g (d + 8) M_X5_odds [vR 23, vI p, vI f, vI n, vI w] σ (qL fun r2 σ2 => (-9223372036854775808) = r2 ∧ Rel σ2) := ME_of (S_X5_odds_0 p f n w σ (isHead_t h5 e23 hp (b1p (isHead_t h5 e23 hf (b1p (within_t hn (b1p (within_f hw (b0n ⟨rfl, hR⟩)))))))))
          refine ME_of (S_X4_odds_0 p f n w σ (has_t h5 e10 hp (b1p (has_t h5 e10 hf (b1n (brn (by rw [fa_lt, z0]; omega) (brn (by rw [fa_lt, z5]; omega) ⟨fun _ => md, fun a => brn ?_ md⟩)))))))
          rw [fa_lt, z0] at a
          rw [fa_le, z1]
          omega
      · have md : ME g (d + 8) M_X5_odds [vR 23, vI p, vI f, vI n, vI w] σ (qL fun r2 σ2 => (-9223372036854775808) = r2 ∧ Rel σ2) := ME_of (S_X5_odds_0 p f n w σ (isHead_t h5 e23 hp (b1p (isHead_t h5 e23 hf (b1p (within_f hn (b0p ⟨rfl, hR⟩)))))))
        refine ME_of (S_X4_odds_0 p f n w σ (has_t h5 e10 hp (b1p (has_t h5 e10 hf (b1n ⟨fun _ => md, fun a => ⟨fun _ => md, fun b => ?_⟩⟩)))))
        exfalso
        rw [fa_lt, z0] at a
        rw [fa_lt, z5] at b
        omega
    · exact ME_of (S_X4_odds_0 p f n w σ (has_t h5 e10 hp (b1p (has_f h5 e10 hf (b0n (ME_of (S_X5_odds_0 p f n w σ (isHead_t h5 e23 hp (b1p (isHead_f h5 e23 hf (b0p ⟨rfl, hR⟩)))))))))))
  · exact ME_of (S_X4_odds_0 p f n w σ (has_f h5 e10 hp (b0p (ME_of (S_X5_odds_0 p f n w σ (isHead_f h5 e23 hp (b0p ⟨rfl, hR⟩)))))))
end ODDS
