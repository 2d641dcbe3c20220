section COURT
variable {g : GG} {d : Nat} {F : Int32 → St → Prop} {S n : Nat}
theorem m_readHead {σ : St} {q m : Nat} (hS : S + n ≤ 240) (hm : m < 5) (hq : q = 4 * m + 2) (hqn : q ≤ n) (hat : σ 23 9 = nI (S + q)) (hrm : σ 23 10 = nI m)
    (hbad : ∀ f, q ≤ f → f ≤ q + 2 → (∀ p, q ≤ p → p < f → good σ S n p) → ¬ good σ S n f → f ≤ n → ∀ σ', FrP σ σ' → σ' 23 9 = nI (S + f) → F 0 σ')
    (hgood : good σ S n q → good σ S n (q + 1) → good σ S n (q + 2) → ∀ σ', FrP σ σ' → σ' 23 9 = nI (S + (q + 3)) → σ' 23 10 = nI (m + 1) → σ' 30 (3 * m) = kdL (σ 26 (S + q)) → σ' 30 (3 * m + 1) = σ 26 (S + (q + 1)) - 48 → σ' 30 (3 * m + 2) = σ 26 (S + (q + 2)) - 48 → (∀ p, p < 3 * m → σ' 30 p = σ 30 p) → F 1 σ') :
    ME g (d + 2) M_X5_readHead [vR 23, vI (nI (S + n))] σ (qI F) := by
  have rr : ∀ (τ : St) (p : Nat) (v : Int32), (sU τ 30 p v) 30 p = v := fun τ p v => by rw [sU_s]; simp [upd]
  have v3 : vp_in (3 * σ 23 10) 15 := by
    rw [hrm, show (3 : Int32) * nI m = nI (3 * m) from pk_mul 3 m]
    exact vp_in_nI (by omega) (by decide)
  have hgg : good σ S n q ↔ q < n ∧ (σ 26 (S + q) = 104 ∨ σ 26 (S + q) = 108 ∨ σ 26 (S + q) = 115) := by
    unfold good
    rw [gOn, if_neg (by omega), if_neg (by omega), if_neg (by omega), if_pos (by omega), decide_eq_true_eq]
  have lt : q < n → ¬ nI (S + n) ≤ nI (S + q) := fun z => nI_ge (by omega) (by omega)
  have ge : ¬ q < n → nI (S + n) ≤ nI (S + q) := fun z => nI_le (by omega) (by omega)
  refine ME_of (S_X5_readHead_0 (nI (S + n)) σ ⟨fun a => ?_, fun a => ?_⟩)
  · have ng : ¬ good σ S n q := fun z => lt z.1 (by rw [← hat]; exact a)
    exact ⟨v3, brt' (rr _ _ _) (hbad q (Nat.le_refl _) (by omega) (fun p p1 p2 => absurd p2 (by omega)) ng hqn _ (FrP.rd _ _ _) (by rw [sU_o (by decide)]; exact hat))⟩
  · have hl : q < n := Decidable.not_not.mp (fun z => a (by rw [hat]; exact ge z))
    have c9 : (σ 23 9).toNatClampNeg = S + q := by rw [hat]; exact cl_n _ (by omega)
    refine ⟨by rw [hat]; exact vp_in_nI (by omega) (by decide), fun b => ⟨fun c => ⟨fun e => ?_, fun e => ?_⟩, fun c => ?_⟩, fun b => ?_⟩
    · rw [c9] at b c e
      have ng : ¬ good σ S n q := fun z => (hgg.mp z).2.elim b (fun w => w.elim c e)
      exact ⟨v3, brt' (rr _ _ _) (hbad q (Nat.le_refl _) (by omega) (fun p p1 p2 => absurd p2 (by omega)) ng hqn _ (FrP.rd _ _ _) (by rw [sU_o (by decide)]; exact hat))⟩
    · rw [c9] at b c e
      have hg : good σ S n q := hgg.mpr ⟨hl, Or.inr (Or.inr e)⟩
      exact rh_tail hS hm hq hl hat hrm (by decide) (by rw [e]; decide) hg hbad (hgood hg)
    · rw [c9] at b c
      have hg : good σ S n q := hgg.mpr ⟨hl, Or.inr (Or.inl c)⟩
      exact rh_tail hS hm hq hl hat hrm (by decide) (by rw [c]; decide) hg hbad (hgood hg)
    · rw [c9] at b
      have hg : good σ S n q := hgg.mpr ⟨hl, Or.inl b⟩
      exact rh_tail hS hm hq hl hat hrm (by decide) (by rw [b]; decide) hg hbad (hgood hg)
/-- what stands in 'read' of the first m heads -/
def rdOk (σ0 σ : St) (S m : Nat) : Prop := ∀ p, p < m → σ 30 (3 * p) = kdL (σ0 26 (S + (4 * p + 2))) ∧ σ 30 (3 * p + 1) = σ0 26 (S + (4 * p + 3)) - 48 ∧ σ 30 (3 * p + 2) = σ0 26 (S + (4 * p + 4)) - 48
theorem l_readCourt (σ0 : St) (hS : S + n ≤ 240)
    (hbad : ∀ f, (∀ p, p < f → good σ0 S n p) → ¬ good σ0 S n f → f ≤ n → ¬ (f = n ∧ 8 < n ∧ (n - 1) % 4 = 0) → ∀ σ', FrP σ0 σ' → σ' 23 9 = nI (S + f) → F 0 σ')
    (hgood : ∀ m, 2 ≤ m → m ≤ 5 → n = 4 * m + 1 → (∀ p, p < n → good σ0 S n p) → ∀ σ', FrP σ0 σ' → σ' 23 10 = nI m → rdOk σ0 σ' S m → F 1 σ') :
    ∀ (r m : Nat) (σ : St), m + r = 5 → 4 * m + 1 ≤ n → FrP σ0 σ → σ 23 9 = nI (S + (4 * m + 1)) → σ 23 10 = nI m → rdOk σ0 σ S m → (∀ p, p < 4 * m + 1 → good σ0 S n p) → VM g (d + 3) M_X5_readCourt (qI F) 17 [(0, vR 23), (1, vI (nI (S + n)))] [] σ := by
  have step : ∀ (m : Nat) (σ : St), m < 5 → 4 * m + 1 ≤ n → FrP σ0 σ → σ 23 9 = nI (S + (4 * m + 1)) → σ 23 10 = nI m → rdOk σ0 σ S m → (∀ p, p < 4 * m + 1 → good σ0 S n p) → ¬ (4 * m + 1 = n ∧ 2 ≤ m) →
      (∀ σ', FrP σ0 σ' → 4 * (m + 1) + 1 ≤ n → σ' 23 9 = nI (S + (4 * (m + 1) + 1)) → σ' 23 10 = nI (m + 1) → rdOk σ0 σ' S (m + 1) → (∀ p, p < 4 * (m + 1) + 1 → good σ0 S n p) → VM g (d + 3) M_X5_readCourt (qI F) 17 [(0, vR 23), (1, vI (nI (S + n)))] [] σ') →
      (ME g (d + 2) M_X5_isSign [vR 23, vI (nI (S + n)), vI 59] σ (qI (fun r2 σ3 => ((r2 = 0 → F 0 σ3) ∧ (¬ r2 = 0 → (ME g (d + 2) M_X5_readHead [vR 23, vI (nI (S + n))] σ3 (qI (fun r6 σ7 => ((¬ r6 = 0 → VM g (d + 2 + 1) M_X5_readCourt (qI F) 17 [(0, vR 23), (1, vI (nI (S + n)))] [] σ7) ∧ (r6 = 0 → F 0 σ7)))))))))) := by
    intro m σ hm hmn hfr hat hrm hrd hgd hne ih
    have e26 : σ 26 = σ0 26 := hfr.1 26 (by decide) (by decide)
    have hgg : good σ0 S n (4 * m + 1) ↔ (4 * m + 1 < n ∧ σ 26 (S + (4 * m + 1)) = 59) := by
      unfold good
      rw [gOn, if_neg (by omega), if_neg (by omega), if_pos (by omega), decide_eq_true_eq, e26]
    refine m_isSign (q := 4 * m + 1) hS hmn hat (fun a b => b1p ?_) (fun a => b0p ?_)
    · have g1 : good σ0 S n (4 * m + 1) := hgg.mpr ⟨a, b⟩
      have fr1 : FrP σ0 (sU σ 23 9 (nI (S + (4 * m + 1 + 1)))) := hfr.tr (FrP.at _ _)
      have hgd1 : ∀ p, p < 4 * m + 2 → good σ0 S n p := fun p hp => by
        rcases (show p < 4 * m + 1 ∨ p = 4 * m + 1 by omega) with z | rfl
        · exact hgd p z
        · exact g1
      refine m_readHead (q := 4 * m + 2) (m := m) hS hm rfl (by omega) rfl hrm (fun f f1 f2 f3 f4 f5 σ' h1 h2 => b0n ?_) (fun h1 h2 h3 σ' h4 h5 h6 h7 h8 h9 h10 => b1n ?_)
      · refine hbad f (fun p hp => ?_) (fun z => f4 ((good_fr fr1).mpr z)) f5 (fun z => ?_) σ' (fr1.tr h1) h2
        · rcases (show p < 4 * m + 2 ∨ 4 * m + 2 ≤ p by omega) with z | z
          · exact hgd1 p z
          · exact (good_fr fr1).mp (f3 p z hp)
        · omega
      · have k1 := (good_fr fr1).mp h1
        have k2 := (good_fr fr1).mp h2
        have k3 := (good_fr fr1).mp h3
        refine ih σ' (fr1.tr h4) (by have := k3.1; omega) h5 h6 (fun p hp => ?_) (fun p hp => ?_)
        · have e26' : (sU σ 23 9 (nI (S + (4 * m + 1 + 1)))) 26 = σ0 26 := fr1.1 26 (by decide) (by decide)
          rw [e26'] at h7 h8 h9
          rcases (show p < m ∨ p = m by omega) with z | rfl
          · rw [h10 _ (by omega), h10 _ (by omega), h10 _ (by omega)]
            exact hrd p z
          · exact ⟨h7, h8, h9⟩
        · rcases (show p < 4 * m + 2 ∨ p = 4 * m + 2 ∨ p = 4 * m + 3 ∨ p = 4 * m + 4 by omega) with z | rfl | rfl | rfl
          · exact hgd1 p z
          · exact k1
          · exact k2
          · exact k3
    · refine hbad (4 * m + 1) hgd (fun z => a (hgg.mp z)) hmn (fun z => hne ⟨z.1, by omega⟩) σ hfr hat
  intro r
  induction r with
  | zero =>
    intro m σ hr hmn hfr hat hrm hrd hgd
    have m5 : m = 5 := by omega
    subst m5
    refine S_X5_readCourt_17 (nI (S + n)) σ ?_
    rw [hrm, hat]
    refine brn (by decide) (brt (by decide) ⟨fun a => ?_, fun a => ?_⟩)
    · refine hbad 21 hgd (fun z => ?_) hmn (fun z => a (congrArg (fun w => nI (S + w)) (show 4 * 5 + 1 = n by omega))) σ hfr hat
      have := z.2
      rw [gOn, if_neg (by decide), if_pos (by decide)] at this
      cases this
    · have : S + 21 = S + n := (nI_eq (by omega) (by omega)).mp a
      exact hgood 5 (by decide) (by decide) (by omega) (fun p hp => hgd p (by omega)) σ hfr hrm hrd
  | succ r ih =>
    intro m σ hr hmn hfr hat hrm hrd hgd
    have go := fun (hne : ¬ (4 * m + 1 = n ∧ 2 ≤ m)) => step m σ (by omega) hmn hfr hat hrm hrd hgd hne (fun σ' k1 k2 k3 k4 k5 k6 => ih (m + 1) σ' (by omega) k2 k1 k3 k4 k5 k6)
    refine S_X5_readCourt_17 (nI (S + n)) σ ⟨fun a => go ?_, fun a => brn ?_ ⟨fun b => ?_, fun b => go ?_⟩⟩
    · intro z
      rw [hrm] at a
      exact nI_nlt (a := m) (b := 2) z.2 (by omega) a
    · rw [hrm]
      exact nI_ge (a := m) (b := 5) (by omega) (by decide)
    · have m2 : 2 ≤ m := by
        rcases Nat.lt_or_ge m 2 with z | z
        · exact absurd (by rw [hrm]; exact nI_lt (a := m) (b := 2) z (by decide)) a
        · exact z
      have en : 4 * m + 1 = n := by
        rw [hat] at b
        have := (nI_leI (by omega) (by omega)).mp b
        omega
      refine brt' (by rw [hat, en]) (hgood m m2 (by omega) en.symm (fun p hp => hgd p (by omega)) σ hfr hrm hrd)
    · intro z
      rw [hat, z.1] at b
      exact b (nI_le (Nat.le_refl _) (by omega))
theorem m_readCourt {σ : St} (hS : S + n ≤ 240) (hat : σ 23 9 = nI S)
    (hbad : ∀ f, (∀ p, p < f → good σ S n p) → ¬ good σ S n f → f ≤ n → ¬ (f = n ∧ 8 < n ∧ (n - 1) % 4 = 0) → ∀ σ', FrP σ σ' → σ' 23 9 = nI (S + f) → F 0 σ')
    (hgood : ∀ m, 2 ≤ m → m ≤ 5 → n = 4 * m + 1 → (∀ p, p < n → good σ S n p) → ∀ σ', FrP σ σ' → σ' 23 10 = nI m → rdOk σ σ' S m → F 1 σ') : ME g (d + 3) M_X5_readCourt [vR 23, vI (nI (S + n))] σ (qI F) := by
  have fr1 : FrP σ (sU σ 23 10 0) := FrP.rm _ _
  have e26 : (sU σ 23 10 0) 26 = σ 26 := rfl
  refine ME_of (S_X5_readCourt_0 (nI (S + n)) σ (m_isSign (q := 0) hS (Nat.zero_le _) hat (fun a b => b1n ?_) (fun a => b0n ?_)))
  · refine l_readCourt σ hS hbad hgood 5 0 _ rfl a (fr1.tr (FrP.at _ _)) rfl rfl (fun p hp => absurd hp (Nat.not_lt_zero p)) (fun p hp => ?_)
    rw [show p = 0 by omega]
    exact ⟨a, by rw [gOn, if_pos rfl, decide_eq_true_eq]; exact b⟩
  · refine hbad 0 (fun p hp => absurd hp (Nat.not_lt_zero p)) (fun z => a ⟨z.1, ?_⟩) (Nat.zero_le _) (fun z => by omega) _ fr1 hat
    have := z.2
    rw [gOn, if_pos rfl, decide_eq_true_eq] at this
    exact this
/-- the class's first fault, by what is good -/
theorem ffN_bad {tx : Nat → Int32} {n f : Nat} (hf : f < n) (h1 : ∀ p, p < f → gOn p (tx p) = true) (h2 : ¬ gOn f (tx f) = true) : ∀ m q, q + m = n → q ≤ f → ffN tx n m q = nI f
  | 0, q, hq, hqf => by omega
  | m + 1, q, hq, hqf => by
    rcases Nat.lt_or_ge q f with z | z
    · rw [ffN, if_pos (h1 q z)]
      exact ffN_bad hf h1 h2 m (q + 1) (by omega) z
    · have : q = f := by omega
      subst this
      rw [ffN, if_neg h2]
theorem ffN_all {tx : Nat → Int32} {n : Nat} (h1 : ∀ p, p < n → gOn p (tx p) = true) : ∀ m q, q + m = n → ffN tx n m q = if 8 < n ∧ (n - 1) % 4 = 0 then -9 else nI n
  | 0, q, hq => rfl
  | m + 1, q, hq => by
    rw [ffN, if_pos (h1 q (by omega))]
    exact ffN_all h1 m (q + 1) (by omega)
end COURT
