def setF (P : Nat → Bool) : Nat → Nat → Int32 → Int32
  | 0, _, a => a
  | m + 1, v, a => setF P m (v + 1) (a ||| (if P v = true then (1 : Int32) <<< (nI v &&& 31) else 0))
section WHO
variable {g : GG} {d h c n : Nat} {σ : St} {F : Int32 → St → Prop} {r : Nat → Nat}
/-- all that who, kinds and wears stand on, of the class's cells -/
def Cx (σ : St) (h c n : Nat) (r : Nat → Nat) : Prop := h ≤ 5 ∧ c ≤ 8 ∧ n ≤ 20 ∧ σ 10 3 = nI h ∧ (∀ i, i < h → inR (σ 11 i) 0 2 ∧ inR (σ 12 i) 1 9) ∧ σ 18 3 = nI c ∧ (∀ q, q < c → inR (σ 20 q) 0 ((h : Int) - 1)) ∧ σ 0 5 = nI n ∧ ∀ v, v < n → r v < h
theorem la_in (hk : ∀ i, i < h → inR (σ 11 i) 0 2 ∧ inR (σ 12 i) 1 9) : ∀ i, i < h → 0 ≤ (laC σ i).toInt ∧ (laC σ i).toInt ≤ 20 := fun i hi => by
  have := lsV2_in (hk i hi).1 (hk i hi).2
  exact ⟨show (0 : Int) ≤ (lsV2 (σ 11 i) (σ 12 i)).toInt by omega, this.2⟩
theorem l_who {t : Nat} {x2 x3 x4 x5 x6 : Int32} (ht : t < n) (σ0 : St) (hX : Cx σ0 h c n r) (hF : ∀ σ', (∀ a, a ≠ 14 → a ≠ 15 → a ≠ 16 → a ≠ 17 → a ≠ 22 → σ' a = σ0 a) → F (setF (fun q => allV (laC σ0) (fun v => if v = t then q else r v) n (σ0 19) (σ0 20) (σ0 21) c) h 0 0) σ') :
    ∀ (m q : Nat) (acc : Int32) (σ : St), q + m = h → (∀ a, a ≠ 14 → a ≠ 15 → a ≠ 16 → a ≠ 17 → a ≠ 22 → σ a = σ0 a) → (∀ v, v < n → v ≠ t → σ 22 v = nI (r v)) → setF (fun q => allV (laC σ0) (fun v => if v = t then q else r v) n (σ0 19) (σ0 20) (σ0 21) c) m q acc = setF (fun q => allV (laC σ0) (fun v => if v = t then q else r v) n (σ0 19) (σ0 20) (σ0 21) c) h 0 0 →
      VM g (d + 5) M_X4_who (qI F) 45 [(0, vR 0), (1, vI (nI t)), (2, vI x2), (3, vI x3), (4, vI x4), (5, vI x5), (6, vI x6), (7, vI acc), (8, vI (nI q))] [] σ
  | 0, q, acc, σ, hq, f, e22, e => by
    obtain ⟨h5, c8, n20, e10, hk, e18, hh, e05, hr⟩ := id hX
    refine S_X4_who_45 (nI t) x2 x3 x4 x5 x6 acc (nI q) σ (brt (by rw [f 10 (by decide) (by decide) (by decide) (by decide) (by decide), e10]; exact nI_le (by omega) (by omega)) ?_)
    rw [setF] at e
    rw [e]
    exact hF σ f
  | m + 1, q, acc, σ, hq, f, e22, e => by
    obtain ⟨h5, c8, n20, e10, hk, e18, hh, e05, hr⟩ := id hX
    refine S_X4_who_45 (nI t) x2 x3 x4 x5 x6 acc (nI q) σ (brn (by rw [f 10 (by decide) (by decide) (by decide) (by decide) (by decide), e10]; exact nI_ge (by omega) (by omega)) ?_)
    rw [cl_n t (by omega), nI_1]
    have f1 : ∀ a, a ≠ 14 → a ≠ 15 → a ≠ 16 → a ≠ 17 → a ≠ 22 → (sU σ 22 t (nI q)) a = σ0 a := fun a a1 a2 a3 a4 a5 => by rw [sU_o a5, f a a1 a2 a3 a4 a5]
    have eL : (fun i => lsV2 ((sU σ 22 t (nI q)) 11 i) ((sU σ 22 t (nI q)) 12 i)) = laC σ0 := by rw [f1 11 (by decide) (by decide) (by decide) (by decide) (by decide), f1 12 (by decide) (by decide) (by decide) (by decide) (by decide)]
    refine ⟨vp_in_nI (by omega) (by decide), m_open h5 (by rw [f1 10 (by decide) (by decide) (by decide) (by decide) (by decide), e10]) (fun i hi => by rw [f1 11 (by decide) (by decide) (by decide) (by decide) (by decide)]; exact (hk i hi).1) (fun σ1 hA f2 => ?_)⟩
    rw [eL] at hA
    have f3 : ∀ a, a ≠ 14 → a ≠ 15 → a ≠ 16 → a ≠ 17 → a ≠ 22 → σ1 a = σ0 a := fun a a1 a2 a3 a4 a5 => by rw [f2 a a1 a2 a3 a4, f1 a a1 a2 a3 a4 a5]
    have row : ∀ v, v < n → σ1 22 v = nI ((fun v => if v = t then q else r v) v) := fun v hv => by
      rw [f2 22 (by decide) (by decide) (by decide) (by decide), sU_s]
      simp only [upd]
      by_cases vt : v = t
      · rw [if_pos vt, if_pos vt]
      · rw [if_neg vt, if_neg vt]; exact e22 v hv vt
    refine m_bitIf (la := laC σ0) (r := fun v => if v = t then q else r v) (n := n) h5 c8 n20 (fun v hv => ?_) hh ⟨by rw [f3 18 (by decide) (by decide) (by decide) (by decide) (by decide)]; exact e18, fun z hz => ⟨by rw [f3 19 (by decide) (by decide) (by decide) (by decide) (by decide)], by rw [f3 20 (by decide) (by decide) (by decide) (by decide) (by decide)], by rw [f3 21 (by decide) (by decide) (by decide) (by decide) (by decide)]⟩⟩ (by rw [f3 0 (by decide) (by decide) (by decide) (by decide) (by decide)]; exact e05) row hA (hs0_wf h5 (la_in hk)) (fun σ2 f4 => ?_)
    · show (if v = t then q else r v) < h
      split
      · omega
      · exact hr v hv
    · rw [setF] at e
      refine l_who ht σ0 hX hF m (q + 1) _ σ2 (by omega) (fun a a1 a2 a3 a4 a5 => by rw [f4 a a1 a2 a3 a4, f3 a a1 a2 a3 a4 a5]) (fun v hv vt => ?_) e
      rw [f4 22 (by decide) (by decide) (by decide) (by decide), row v hv]
      simp [vt]
/-- .. of the reference's cells; the class's stand in σ0 -/
def Mx (σ0 σ : St) (h c n : Nat) (r : Nat → Nat) : Prop := h ≤ 5 ∧ c ≤ 8 ∧ n ≤ 20 ∧ σ 23 5 = nI h ∧ (∀ i, i < h → inR (σ0 11 i) 0 2 ∧ inR (σ0 12 i) 1 9 ∧ σ 27 i = σ0 11 i ∧ σ 28 i = σ0 12 i) ∧ σ 23 18 = nI c ∧ (∀ q, q < c → inR (σ0 20 q) 0 ((h : Int) - 1) ∧ σ 34 q = σ0 19 q ∧ σ 35 q = σ0 20 q ∧ σ 36 q = σ0 21 q) ∧ σ 23 15 = nI n ∧ ∀ v, v < n → r v < h
theorem l_who5 {t : Nat} {x2 x3 x4 x5 x6 : Int32} (ht : t < n) (σ0 σ1 : St) (hX : Mx σ0 σ1 h c n r) (hF : ∀ σ', (∀ a, a ≠ 23 → a ≠ 31 → a ≠ 32 → a ≠ 33 → σ' a = σ1 a) → (∀ j, j ≠ 14 → σ' 23 j = σ1 23 j) → F (setF (fun q => allV (laC σ0) (fun v => if v = t then q else r v) n (σ0 19) (σ0 20) (σ0 21) c) h 0 0) σ') :
    ∀ (m q : Nat) (acc : Int32) (σ : St), q + m = h → (∀ a, a ≠ 23 → a ≠ 31 → a ≠ 32 → a ≠ 33 → σ a = σ1 a) → (∀ j, j ≠ 14 → σ 23 j = σ1 23 j) → (∀ v, v < n → v ≠ t → σ 33 v = nI (r v)) → setF (fun q => allV (laC σ0) (fun v => if v = t then q else r v) n (σ0 19) (σ0 20) (σ0 21) c) m q acc = setF (fun q => allV (laC σ0) (fun v => if v = t then q else r v) n (σ0 19) (σ0 20) (σ0 21) c) h 0 0 →
      VM g (d + 3) M_X5_who (qI F) 64 [(0, vR 23), (1, vI (nI t)), (2, vI x2), (3, vI x3), (4, vI x4), (5, vI x5), (6, vI x6), (7, vI acc), (8, vI (nI q))] [] σ
  | 0, q, acc, σ, hq, f, f23, e22, e => by
    obtain ⟨h5, c8, n20, e5, hk, e18, hh, e15, hr⟩ := id hX
    refine S_X5_who_64 (nI t) x2 x3 x4 x5 x6 acc (nI q) σ (brt (by rw [f23 5 (by decide), e5]; exact nI_le (by omega) (by omega)) ?_)
    rw [setF] at e
    rw [e]
    exact hF σ f f23
  | m + 1, q, acc, σ, hq, f, f23, e22, e => by
    obtain ⟨h5, c8, n20, e5, hk, e18, hh, e15, hr⟩ := id hX
    refine S_X5_who_64 (nI t) x2 x3 x4 x5 x6 acc (nI q) σ (brn (by rw [f23 5 (by decide), e5]; exact nI_ge (by omega) (by omega)) ?_)
    rw [cl_n t (by omega), nI_1]
    have f1 : ∀ a, a ≠ 23 → a ≠ 31 → a ≠ 32 → a ≠ 33 → (sU σ 33 t (nI q)) a = σ1 a := fun a a1 a2 a3 a4 => by rw [sU_o a4, f a a1 a2 a3 a4]
    have row : ∀ v, v < n → (sU σ 33 t (nI q)) 33 v = nI ((fun v => if v = t then q else r v) v) := fun v hv => by
      rw [sU_s]
      simp only [upd]
      by_cases vt : v = t
      · rw [if_pos vt, if_pos vt]
      · rw [if_neg vt, if_neg vt]; exact e22 v hv vt
    have nx : ∀ (acc' : Int32) (σ2 : St), FrG (sU σ 33 t (nI q)) σ2 → setF (fun q => allV (laC σ0) (fun v => if v = t then q else r v) n (σ0 19) (σ0 20) (σ0 21) c) m (q + 1) acc' = setF (fun q => allV (laC σ0) (fun v => if v = t then q else r v) n (σ0 19) (σ0 20) (σ0 21) c) h 0 0 → VM g (d + 3) M_X5_who (qI F) 64 [(0, vR 23), (1, vI (nI t)), (2, vI x2), (3, vI x3), (4, vI x4), (5, vI x5), (6, vI x6), (7, vI acc'), (8, vI (nI (q + 1)))] [] σ2 := fun acc' σ2 f4 e' => by
      refine l_who5 ht σ0 σ1 hX hF m (q + 1) acc' σ2 (by omega) (fun a a1 a2 a3 a4 => by rw [f4.1 a a2 a3 a1, f1 a a1 a2 a3 a4]) (fun j hj => by rw [f4.2 j hj, sU_o (by decide), f23 j hj]) (fun v hv vt => ?_) e'
      rw [f4.1 33 (by decide) (by decide) (by decide), row v hv]
      simp [vt]
    rw [setF] at e
    refine ⟨vp_in_nI (by omega) (by decide), m_areSo5 (la := laC σ0) (r := fun v => if v = t then q else r v) (n := n) (rt := σ0 19) (rh := σ0 20) (rf := σ0 21) (c := c) h5 c8 n20 (fun v hv => ?_) (fun z hz => (hh z hz).1) ⟨by rw [sU_o (by decide), f23 18 (by decide), e18], fun z hz => ?_⟩ (by rw [sU_o (by decide), f23 15 (by decide), e15]) row (by rw [sU_o (by decide), f23 5 (by decide), e5]) (fun i hi => ?_) (la_in (fun i hi => ⟨(hk i hi).1, (hk i hi).2.1⟩)) (fun b σ2 f4 => b1p (nx _ σ2 f4 ?_)) (fun b σ2 f4 => b0p (nx _ σ2 f4 ?_))⟩
    · show (if v = t then q else r v) < h
      split
      · omega
      · exact hr v hv
    · rw [f1 34 (by decide) (by decide) (by decide) (by decide), f1 35 (by decide) (by decide) (by decide) (by decide), f1 36 (by decide) (by decide) (by decide) (by decide)]
      exact (hh z hz).2
    · rw [f1 27 (by decide) (by decide) (by decide) (by decide), f1 28 (by decide) (by decide) (by decide) (by decide), (hk i hi).2.2.1, (hk i hi).2.2.2]
    · rw [if_pos b] at e; exact e
    · rw [if_neg (by rw [b]; decide)] at e; exact e
/-- what laying gives, on the class's side -/
theorem Cx_of {k : Nat} {x lane i : Int32} {n' : Nat} {σ1 : St} {z : Int32} (hC : RC σ h) (hN : RR σ h c) (f1 : FrT σ σ1) (e0 : tvV σ h k lane i (nI n') = 0) (nb : n' < 2147483648) (q2 : σ1 0 5 = nI n') : Cx (sU σ1 0 7 z) h c n' (rvF σ k i.toNatClampNeg) ∧ ∀ v, v < n' → σ (6 + k) (i.toNatClampNeg + v) = nI (rvF σ k i.toNatClampNeg v) := by
  obtain ⟨h5, e10, e23, hc⟩ := hC
  obtain ⟨c8, n1, n2, hn⟩ := hN
  obtain ⟨hl, hnn, h0, hrow⟩ := tv_0 e0
  have fc : FrC σ (sU σ1 0 7 z) := FrT_nt f1
  rw [cl_n n' nb] at hrow
  have rv := rv_ok hrow
  have vn := nI_v nb
  have g : ∀ a, a ≠ 0 → a ≠ 14 → a ≠ 15 → a ≠ 16 → a ≠ 17 → a ≠ 22 → (sU σ1 0 7 z) a = σ a := fc.1
  refine ⟨⟨h5, c8, by omega, ?_, fun j hj => ?_, ?_, fun q hq => ?_, by rw [sU_s]; exact q2, fun v hv => (rv v hv).1⟩, fun v hv => (rv v hv).2⟩
  · rw [g 10 (by decide) (by decide) (by decide) (by decide) (by decide) (by decide)]; exact e10
  · rw [g 11 (by decide) (by decide) (by decide) (by decide) (by decide) (by decide), g 12 (by decide) (by decide) (by decide) (by decide) (by decide) (by decide)]
    exact ⟨(hc j hj).2.2.2.1, (hc j hj).2.2.2.2.1⟩
  · rw [g 18 (by decide) (by decide) (by decide) (by decide) (by decide) (by decide)]; exact n1
  · rw [g 20 (by decide) (by decide) (by decide) (by decide) (by decide) (by decide)]; exact (hn q hq).2.2.2.2
/-- .. on the reference's -/
theorem Mx_of {k : Nat} {lane i : Int32} {n' : Nat} {τ τ0 σ1 : St} (hC : RC σ h) (hN : RR σ h c) (f : FrC σ τ) (f1 : FrL (sU τ 23 0 0) σ1) (e0 : tvV σ h k lane i (nI n') = 0) (nb : n' < 2147483648) (q2 : σ1 23 15 = nI n') : Mx σ σ1 h c n' (rvF σ k i.toNatClampNeg) := by
  obtain ⟨h5, e10, e23, hc⟩ := hC
  obtain ⟨c8, n1, n2, hn⟩ := hN
  obtain ⟨hl, hnn, h0, hrow⟩ := tv_0 e0
  rw [cl_n n' nb] at hrow
  have rv := rv_ok hrow
  have vn := nI_v nb
  have fz : ∀ a, a ≠ 0 → a ≠ 14 → a ≠ 15 → a ≠ 16 → a ≠ 17 → a ≠ 22 → a ≠ 23 → a ≠ 33 → σ1 a = σ a := fun a a0 a14 a15 a16 a17 a22 a23 a33 => by rw [f1.1 a a33 a23, sU_o a23, f.1 a a0 a14 a15 a16 a17 a22]
  have f23 : ∀ j, j ≠ 15 → j ≠ 0 → σ1 23 j = σ 23 j := fun j j15 j0 => by
    rw [f1.2 j j15 j0, sU_s]
    simp only [upd]
    rw [if_neg j0, f.1 23 (by decide) (by decide) (by decide) (by decide) (by decide) (by decide)]
  refine ⟨h5, c8, by omega, by rw [f23 5 (by decide) (by decide), e23], fun j hj => ?_, by rw [f23 18 (by decide) (by decide), n2], fun q hq => ?_, q2, fun v hv => (rv v hv).1⟩
  · rw [fz 27 (by decide) (by decide) (by decide) (by decide) (by decide) (by decide) (by decide) (by decide), fz 28 (by decide) (by decide) (by decide) (by decide) (by decide) (by decide) (by decide) (by decide)]
    exact ⟨(hc j hj).2.2.2.1, (hc j hj).2.2.2.2.1, (hc j hj).1.symm, (hc j hj).2.1.symm⟩
  · rw [fz 34 (by decide) (by decide) (by decide) (by decide) (by decide) (by decide) (by decide) (by decide), fz 35 (by decide) (by decide) (by decide) (by decide) (by decide) (by decide) (by decide) (by decide), fz 36 (by decide) (by decide) (by decide) (by decide) (by decide) (by decide) (by decide) (by decide)]
    exact ⟨(hn q hq).2.2.2.2, (hn q hq).1.symm, (hn q hq).2.1.symm, (hn q hq).2.2.1.symm⟩
theorem FrC_w {σ1 σ2 : St} {z : Int32} (f1 : FrT σ σ1) (f : ∀ a, a ≠ 14 → a ≠ 15 → a ≠ 16 → a ≠ 17 → a ≠ 22 → σ2 a = (sU σ1 0 7 z) a) : FrC σ σ2 ∧ σ2 0 7 = z := by
  have fc : FrC σ (sU σ1 0 7 z) := FrT_nt f1
  refine ⟨⟨fun a a0 a14 a15 a16 a17 a22 => by rw [f a a14 a15 a16 a17 a22, fc.1 a a0 a14 a15 a16 a17 a22], by rw [f 0 (by decide) (by decide) (by decide) (by decide) (by decide), fc.2]⟩, ?_⟩
  rw [f 0 (by decide) (by decide) (by decide) (by decide) (by decide), sU_s]
  simp [upd]
theorem FrX_w {τ σ1 σ2 : St} (f1 : FrX τ σ1) (f : ∀ a, a ≠ 23 → a ≠ 31 → a ≠ 32 → a ≠ 33 → σ2 a = σ1 a) (f23 : ∀ j, j ≠ 14 → σ2 23 j = σ1 23 j) : FrX τ σ2 := ⟨fun a a23 a31 a32 a33 => by rw [f a a23 a31 a32 a33, f1.1 a a23 a31 a32 a33], by rw [f23 1 (by decide), f1.2.1], by rw [f23 5 (by decide), f1.2.2.1], by rw [f23 18 (by decide), f1.2.2.2]⟩
theorem same_c {σ1 : St} {z : Int32} (f1 : FrT σ σ1) {k : Nat} (hk : k < 37) (h0 : k ≠ 0) (h14 : k ≠ 14) (h15 : k ≠ 15) (h16 : k ≠ 16) (h17 : k ≠ 17) (h22 : k ≠ 22) : (sU σ1 0 7 z) k = σ k := (FrT_nt (z := z) f1).1 k h0 h14 h15 h16 h17 h22
theorem st_who (t x lane i n : Int32) (hR : Rel σ) : Dbl g (d + 5) M_X4_who M_X5_who [vI t, vI x, vI lane, vI i, vI n] σ := by
  obtain ⟨h, c, hC, hN⟩ := hR.2.1
  obtain ⟨h5, e10, e23, hc⟩ := id hC
  have z0 : (0 : Int32).toInt = 0 := rfl
  have z1 : (1 : Int32).toInt = 1 := rfl
  have tn := tS n 1
  have rn := fb_rng n
  have rn1 := fb_rng (n - 1)
  by_cases hx : inR x 0 3
  · by_cases ht : 0 ≤ t.toInt ∧ t.toInt < n.toInt
    · refine ME_of (S_X4_who_0 t x lane i n σ (brn (by rw [fa_lt, z0]; omega) (brn (by rw [fa_le]; omega) ?_)))
      by_cases hln : inR lane 0 2 ∧ inR n 0 20
      · obtain ⟨k, rfl, hk3, -⟩ := toN hx
        have hk : k < 4 := by omega
        have hcl : (nI k).toNatClampNeg = k := cl_n k (by omega)
        have ect : ctV σ h (nI k) lane i n 1 = tvV σ h k lane i n := by rw [ctV, if_neg (not_not_intro hx), if_neg (by decide), hcl]
        -- the reference's call up to its row
        have md : ∀ (τ : St) (G : Int32 → St → Prop), FrC σ τ → (tvV σ h k lane i n ≠ 0 → ∀ σ', FrX τ σ' → σ' 23 0 = ntV (tvV σ h k lane i n) → G (tvV σ h k lane i n) σ') → (tvV σ h k lane i n = 0 → ∀ σ1, FrL (sU τ 23 0 0) σ1 → σ1 23 0 = 0 → σ1 23 15 = n → (∀ v, v < n.toNatClampNeg → σ1 33 v = σ (6 + k) (i.toNatClampNeg + v)) → VM g (d + 5) M_X5_who (qI G) 64 [(0, vR 23), (1, vI t), (2, vI (nI k)), (3, vI lane), (4, vI i), (5, vI n), (6, vI 0), (7, vI 0), (8, vI 0)] [] σ1) → ME g (d + 5) M_X5_who [vR 23, vI t, vI (nI k), vI lane, vI i, vI n] τ (qI G) := by
          intro τ G f K1 K2
          have gg : ∀ a, a ≠ 0 → a ≠ 14 → a ≠ 15 → a ≠ 16 → a ≠ 17 → a ≠ 22 → a ≠ 23 → (sU τ 23 0 0) a = σ a := fun a a0 a14 a15 a16 a17 a22 a23 => by rw [sU_o a23, f.1 a a0 a14 a15 a16 a17 a22]
          have g5 : (sU τ 23 0 0) 23 5 = nI h := by
            rw [sU_s]
            show upd (τ 23) 0 0 5 = _
            simp only [upd]
            rw [if_neg (by decide), f.1 23 (by decide) (by decide) (by decide) (by decide) (by decide) (by decide), e23]
          have hS : RS (sU τ 23 0 0) := RS_fr hR.1 (fun a ha => gg a (by omega) (by omega) (by omega) (by omega) (by omega) (by omega) (by omega))
          have etv : tvV (sU τ 23 0 0) h k lane i n = tvV σ h k lane i n := by
            unfold tvV
            rw [gg (2 + k) (by omega) (by omega) (by omega) (by omega) (by omega) (by omega) (by omega), gg (6 + k) (by omega) (by omega) (by omega) (by omega) (by omega) (by omega) (by omega)]
          refine ME_of (S_X5_who_0 t (nI k) lane i n τ (isSheet5_t hx (b1n (m_isRow (fun _ _ => b1p (within_t (by omega) (b1n ?_))) (fun q => absurd hln q)))))
          refine m_layVisits hk hS h5 hln.1 hln.2 g5 rfl (fun σ1 f1 q0 q1 => ?_)
          rw [etv] at q0 q1 ⊢
          by_cases e0 : tvV σ h k lane i n = 0
          · rw [e0]
            rw [e0] at q0
            obtain ⟨q2, q3⟩ := q1 e0
            exact brt rfl (K2 e0 σ1 f1 q0 q2 (fun v hv => by rw [q3 v hv, gg (6 + k) (by omega) (by omega) (by omega) (by omega) (by omega) (by omega) (by omega)]))
          · exact brn e0 (K1 e0 σ1 (FrX_L f1) q0)
        refine m_tv hR h5 e10 (fun σ1 f1 q1 => m_noted ?_)
        rw [ect] at q1 ⊢
        by_cases e0 : tvV σ h k lane i n = 0
        · rw [e0]
          obtain ⟨q2, q3⟩ := q1 e0
          obtain ⟨n', rfl, hn3, nb⟩ := toN hln.2
          have vn := nI_v nb
          obtain ⟨t', rfl, ht3, tb⟩ := toN (x := t) (hi := 20) ⟨ht.1, by omega⟩
          have vt := nI_v tb
          obtain ⟨hX, rv⟩ := Cx_of (z := ntV 0) (x := nI k) hC hN f1 e0 nb q2
          rw [cl_n n' nb, hcl] at q3
          refine brt rfl (l_who (by omega) _ hX (fun σ2 f2 => ?_) h 0 0 _ (by omega) (fun _ _ _ _ _ _ => rfl) (fun v hv _ => by rw [sU_o (by decide), q3 v hv]; exact rv v hv) rfl)
          obtain ⟨fc2, z7⟩ := FrC_w f1 f2
          refine md σ2 _ fc2 (fun q => absurd e0 q) (fun _ σ3 f3 q0 q15 q33 => ?_)
          have hM := Mx_of (τ0 := σ) hC hN fc2 f3 e0 nb q15
          rw [cl_n n' nb] at q33
          have eP : laC (sU σ1 0 7 (ntV 0)) = laC σ := by
            show (fun i => lsV2 ((sU σ1 0 7 (ntV 0)) 11 i) ((sU σ1 0 7 (ntV 0)) 12 i)) = _
            rw [same_c f1 (by decide) (by decide) (by decide) (by decide) (by decide) (by decide) (by decide), same_c f1 (by decide) (by decide) (by decide) (by decide) (by decide) (by decide) (by decide)]
          rw [eP, same_c (k := 19) f1 (by decide) (by decide) (by decide) (by decide) (by decide) (by decide) (by decide), same_c (k := 20) f1 (by decide) (by decide) (by decide) (by decide) (by decide) (by decide) (by decide), same_c (k := 21) f1 (by decide) (by decide) (by decide) (by decide) (by decide) (by decide) (by decide)]
          refine l_who5 (by omega) σ σ3 hM (fun σ4 f4 f5 => ⟨rfl, Rel_fin hR fc2 (FrX_w (FrX_L f3) f4 f5) z7 ?_⟩) h 0 0 _ (by omega) (fun _ _ _ _ _ => rfl) (fun _ _ => rfl) (fun v hv _ => by rw [q33 v hv]; exact rv v hv) rfl
          rw [f5 0 (by decide), q0]
          rfl
        · refine brn e0 (md _ _ (FrT_nt f1) (fun _ σ' fx q => ⟨rfl, Rel_fin hR (FrT_nt f1) fx ?_ q⟩) (fun q => absurd q e0))
          rw [sU_s]
          simp [upd]
      · refine tv_ref (r := -2) hR h5 e10 ?_ (by decide) (by decide) (fun τ f q => ?_)
        · rw [ctV, if_neg (not_not_intro hx), if_neg (by decide), tvV, if_pos (by omega)]
        · exact ME_of (S_X5_who_0 t x lane i n τ (isSheet5_t hx (b1n (m_isRow (fun a b => absurd ⟨a, b⟩ hln) (fun _ => b0p ⟨rfl, Rel_fin hR f FrX_0 q rfl⟩)))))
    · have md : ∀ τ, FrC σ τ → τ 0 7 = 0 → ME g (d + 5) M_X5_who [vR 23, vI t, vI x, vI lane, vI i, vI n] τ (qI fun r2 σ2 => -2 = r2 ∧ Rel σ2) := fun τ f q => ME_of (S_X5_who_0 t x lane i n τ (isSheet5_t hx (b1n (m_isRow (fun _ hn => b1p (within_f (by omega) (b0n ⟨rfl, Rel_fin hR f FrX_0 q rfl⟩))) (fun _ => b0p ⟨rfl, Rel_fin hR f FrX_0 q rfl⟩)))))
      have e2 : ctV σ h x lane i n 0 = -2 := by rw [ctV, if_neg (not_not_intro hx), if_pos rfl]
      refine ME_of (S_X4_who_0 t x lane i n σ ⟨fun a => tv_ref (r := -2) hR h5 e10 e2 (by decide) (by decide) md, fun a => ⟨fun b => tv_ref (r := -2) hR h5 e10 e2 (by decide) (by decide) md, fun b => ?_⟩⟩)
      exfalso
      rw [fa_lt, z0] at a
      rw [fa_le] at b
      omega
  · have md : ∀ τ, FrC σ τ → τ 0 7 = 0 → ME g (d + 5) M_X5_who [vR 23, vI t, vI x, vI lane, vI i, vI n] τ (qI fun r2 σ2 => -1 = r2 ∧ Rel σ2) := fun τ f q => ME_of (S_X5_who_0 t x lane i n τ (isSheet5_f hx (b0n ⟨rfl, Rel_fin hR f FrX_0 q rfl⟩)))
    exact ME_of (S_X4_who_0 t x lane i n σ ⟨fun a => tv_ref (r := -1) hR h5 e10 (by rw [ctV, if_pos hx]) (by decide) (by decide) md, fun a => ⟨fun b => tv_ref (r := -1) hR h5 e10 (by rw [ctV, if_pos hx]) (by decide) (by decide) md, fun b => tv_ref (r := -1) hR h5 e10 (by rw [ctV, if_pos hx]) (by decide) (by decide) md⟩⟩)
end WHO
