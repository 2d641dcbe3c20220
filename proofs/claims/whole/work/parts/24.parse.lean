/-! the reference reads a TEXT: its codes stand at the cells S .. S + n of its row of cells -/
def FrP (σ σ' : St) : Prop := (∀ a, a ≠ 30 → a ≠ 23 → σ' a = σ a) ∧ ∀ i, i ≠ 9 → i ≠ 10 → σ' 23 i = σ 23 i
theorem FrP.rf (σ : St) : FrP σ σ := ⟨fun _ _ _ => rfl, fun _ _ _ => rfl⟩
theorem FrP.tr {a b c : St} (h1 : FrP a b) (h2 : FrP b c) : FrP a c := ⟨fun x p q => (h2.1 x p q).trans (h1.1 x p q), fun x p q => (h2.2 x p q).trans (h1.2 x p q)⟩
theorem FrP.at (σ : St) (x : Int32) : FrP σ (sU σ 23 9 x) := ⟨fun a _ h => sU_o h, fun i h _ => by rw [sU_s]; simp [upd, h]⟩
theorem FrP.rm (σ : St) (x : Int32) : FrP σ (sU σ 23 10 x) := ⟨fun a _ h => sU_o h, fun i _ h => by rw [sU_s]; simp [upd, h]⟩
theorem FrP.rd (σ : St) (p : Nat) (x : Int32) : FrP σ (sU σ 30 p x) := ⟨fun a h _ => sU_o h, fun i _ _ => by rw [sU_o (by decide)]⟩
/-- the code at the place q is there, and with it a TEXT goes on -/
def good (σ : St) (S n q : Nat) : Prop := q < n ∧ gOn q (σ 26 (S + q)) = true
theorem good_fr {σ σ' : St} (h : FrP σ σ') {S n q : Nat} : good σ' S n q ↔ good σ S n q := by
  unfold good
  rw [h.1 26 (by decide) (by decide)]
section PARSE
variable {g : GG} {d : Nat} {F : Int32 → St → Prop} {S n : Nat}
theorem m_isSign {σ : St} {q : Nat} {c : Int32} (hS : S + n ≤ 240) (hq : q ≤ n) (hat : σ 23 9 = nI (S + q)) (h1 : q < n → σ 26 (S + q) = c → F 1 (sU σ 23 9 (nI (S + (q + 1))))) (h0 : ¬ (q < n ∧ σ 26 (S + q) = c) → F 0 σ) : ME g d M_X5_isSign [vR 23, vI (nI (S + n)), vI c] σ (qI F) := by
  refine ME_of (S_X5_isSign_0 (nI (S + n)) c σ ?_)
  rw [hat, cl_n _ (by omega), nI_1]
  refine ⟨fun a => h0 (fun z => nI_ge (a := S + q) (b := S + n) (by omega) (by omega) a), fun a => ⟨vp_in_nI ?_ (by decide), fun b => h1 ?_ b, fun b => h0 (fun z => b z.2)⟩⟩
  · rcases Nat.lt_or_ge q n with z | z
    · omega
    · exact absurd (nI_le (a := S + n) (b := S + q) (by omega) (by omega)) a
  · rcases Nat.lt_or_ge q n with z | z
    · exact z
    · exact absurd (nI_le (a := S + n) (b := S + q) (by omega) (by omega)) a
theorem m_digit {σ : St} {q lo hi : Nat} (hS : S + n ≤ 240) (hq : q ≤ n) (hlo : lo ≤ 9) (hhi : hi ≤ 9) (hat : σ 23 9 = nI (S + q)) (h1 : q < n → inR (σ 26 (S + q)) (48 + lo) (48 + hi) → F (σ 26 (S + q) - 48) (sU σ 23 9 (nI (S + (q + 1))))) (h0 : ¬ (q < n ∧ inR (σ 26 (S + q)) (48 + lo) (48 + hi)) → F (-9) σ) : ME g (d + 1) M_X5_digit [vR 23, vI (nI (S + n)), vI (nI lo), vI (nI hi)] σ (qI F) := by
  have v1 : ((48 : Int32) + nI lo).toInt = 48 + lo := by
    show (nI 48 + nI lo).toInt = _
    rw [nI_add, nI_v (by omega)]
    omega
  have v2 : ((48 : Int32) + nI hi).toInt = 48 + hi := by
    show (nI 48 + nI hi).toInt = _
    rw [nI_add, nI_v (by omega)]
    omega
  refine ME_of (S_X5_digit_0 (nI (S + n)) (nI lo) (nI hi) σ ?_)
  rw [hat, cl_n _ (by omega)]
  refine ⟨fun a => h0 (fun z => nI_ge (a := S + q) (b := S + n) (by omega) (by omega) a), fun a => ?_⟩
  have hqn : q < n := by
    rcases Nat.lt_or_ge q n with z | z
    · exact z
    · exact absurd (nI_le (a := S + n) (b := S + q) (by omega) (by omega)) a
  refine ⟨vp_in_nI (by omega) (by decide), m_within (fun b => b1n ?_) (fun b => b0n (h0 (fun z => b (by rw [v1, v2]; exact z.2))))⟩
  have e1 : σ 23 9 + 1 - 1 = nI (S + q) := by rw [hat, nI_1, nI_pred]
  rw [e1, cl_n _ (by omega), hat, nI_1]
  refine ⟨vp_in_nI (by omega) (by decide), h1 hqn ?_⟩
  rw [v1, v2] at b
  exact b
/-- readHead, once its letter is known -/
theorem rh_tail {σ : St} {q m : Nat} {kd : Int32} (hS : S + n ≤ 240) (hm : m < 5) (hq : q = 4 * m + 2) (hqn : q < n) (hat : σ 23 9 = nI (S + q)) (hrm : σ 23 10 = nI m) (hk9 : ¬ kd = -9) (hk : kd = kdL (σ 26 (S + q))) (hg : good σ S n q)
    (hbad : ∀ f, q ≤ f → f ≤ q + 2 → (∀ p, q ≤ p → p < f → good σ S n p) → ¬ good σ S n f → f ≤ n → ∀ σ', FrP σ σ' → σ' 23 9 = nI (S + f) → F 0 σ')
    (hgood : good σ S n (q + 1) → good σ S n (q + 2) → ∀ σ', FrP σ σ' → σ' 23 9 = nI (S + (q + 3)) → σ' 23 10 = nI (m + 1) → σ' 30 (3 * m) = kdL (σ 26 (S + q)) → σ' 30 (3 * m + 1) = σ 26 (S + (q + 1)) - 48 → σ' 30 (3 * m + 2) = σ 26 (S + (q + 2)) - 48 → (∀ p, p < 3 * m → σ' 30 p = σ 30 p) → F 1 σ') :
    (vp_in (3 * (σ 23 10)) 15 ∧ ((¬ ((sU σ 30 ((3 * (σ 23 10)).toNatClampNeg) kd) 30 ((3 * (σ 23 10)).toNatClampNeg)) = (-9) → (ME g (d + 1) M_X5_digit [vR 23, vI (nI (S + n)), vI 1, vI 9] (sU (sU σ 30 ((3 * (σ 23 10)).toNatClampNeg) kd) 23 9 ((σ 23 9) + 1)) (qI (fun r6 σ7 => (vp_in ((3 * (σ 23 10)) + 1) 15 ∧ ((¬ ((sU σ7 30 (((3 * (σ 23 10)) + 1).toNatClampNeg) r6) 30 (((3 * (σ 23 10)) + 1).toNatClampNeg)) = (-9) → (ME g (d + 1) M_X5_digit [vR 23, vI (nI (S + n)), vI 0, vI 5] (sU σ7 30 (((3 * (σ 23 10)) + 1).toNatClampNeg) r6) (qI (fun r10 σ11 => (vp_in ((3 * (σ 23 10)) + 2) 15 ∧ ((((sU σ11 30 (((3 * (σ 23 10)) + 2).toNatClampNeg) r10) 30 (((3 * (σ 23 10)) + 2).toNatClampNeg)) = (-9) → F 0 (sU (sU σ11 30 (((3 * (σ 23 10)) + 2).toNatClampNeg) r10) 23 10 ((σ11 23 10) + 1))) ∧ (¬ ((sU σ11 30 (((3 * (σ 23 10)) + 2).toNatClampNeg) r10) 30 (((3 * (σ 23 10)) + 2).toNatClampNeg)) = (-9) → F 1 (sU (sU σ11 30 (((3 * (σ 23 10)) + 2).toNatClampNeg) r10) 23 10 ((σ11 23 10) + 1))))))))) ∧ (((sU σ7 30 (((3 * (σ 23 10)) + 1).toNatClampNeg) r6) 30 (((3 * (σ 23 10)) + 1).toNatClampNeg)) = (-9) → F 0 (sU σ7 30 (((3 * (σ 23 10)) + 1).toNatClampNeg) r6)))))))) ∧ (((sU σ 30 ((3 * (σ 23 10)).toNatClampNeg) kd) 30 ((3 * (σ 23 10)).toNatClampNeg)) = (-9) → F 0 (sU σ 30 ((3 * (σ 23 10)).toNatClampNeg) kd)))) := by
  have rr : ∀ (τ : St) (p : Nat) (v : Int32), (sU τ 30 p v) 30 p = v := fun τ p v => by rw [sU_s]; simp [upd]
  have e3 : (3 : Int32) * nI m = nI (3 * m) := pk_mul 3 m
  have e31 : nI (3 * m) + 1 = nI (3 * m + 1) := nI_1 _
  have e32 : nI (3 * m) + 2 = nI (3 * m + 2) := nI_add (3 * m) 2
  have h26 : ∀ x y : Int32, (sU (sU σ 30 (3 * m) x) 23 9 y) 26 = σ 26 := fun x y => by rw [sU_o (by decide), sU_o (by decide)]
  have dg : ∀ z : Int32, ∀ lo : Int, 48 ≤ lo → inR z lo 57 → ¬ z - 48 = -9 := by
    intro z lo hlo hz e
    have t := tS z 48
    have t2 : (48 : Int32).toInt = 48 := rfl
    rw [fa_eq, tm9] at e
    omega
  rw [hrm, e3, e31, e32, cl_n (3 * m) (by omega), cl_n (3 * m + 1) (by omega), cl_n (3 * m + 2) (by omega), hat, nI_1]
  refine ⟨vp_in_nI (by omega) (by decide), brn' (by rw [rr]; exact hk9) ?_⟩
  have fr1 : FrP σ (sU (sU σ 30 (3 * m) kd) 23 9 (nI (S + q + 1))) := (FrP.rd σ _ _).tr (FrP.at _ _)
  refine m_digit (q := q + 1) (lo := 1) (hi := 9) hS (by omega) (by decide) (by decide) rfl (fun a b => ?_) (fun a => ?_)
  · rw [h26] at b ⊢
    have gq1 : good σ S n (q + 1) := by
      refine ⟨a, ?_⟩
      rw [gOn, if_neg (by omega), if_neg (by omega), if_neg (by omega), if_neg (by omega), if_pos (by omega), decide_eq_true_eq]
      exact b
    refine ⟨vp_in_nI (by omega) (by decide), brn' (by rw [rr]; exact dg _ 49 (by decide) b) ?_⟩
    have fr2 : FrP σ (sU (sU (sU (sU σ 30 (3 * m) kd) 23 9 (nI (S + q + 1))) 23 9 (nI (S + (q + 1 + 1)))) 30 (3 * m + 1) (σ 26 (S + (q + 1)) - 48)) := (fr1.tr (FrP.at _ _)).tr (FrP.rd _ _ _)
    have h26' : (sU (sU (sU (sU σ 30 (3 * m) kd) 23 9 (nI (S + q + 1))) 23 9 (nI (S + (q + 1 + 1)))) 30 (3 * m + 1) (σ 26 (S + (q + 1)) - 48)) 26 = σ 26 := fr2.1 26 (by decide) (by decide)
    refine m_digit (q := q + 2) (lo := 0) (hi := 5) hS (by omega) (by decide) (by decide) rfl (fun a2 b2 => ?_) (fun a2 => ?_)
    · rw [h26'] at b2 ⊢
      have gq2 : good σ S n (q + 2) := by
        refine ⟨a2, ?_⟩
        rw [gOn, if_neg (by omega), if_neg (by omega), if_neg (by omega), if_neg (by omega), if_neg (by omega), decide_eq_true_eq]
        exact b2
      refine ⟨vp_in_nI (by omega) (by decide), brn (by rw [rr]; exact dg _ 48 (by decide) ⟨b2.1, by have := b2.2; omega⟩) (hgood gq1 gq2 _ (((fr2.tr (FrP.at _ _)).tr (FrP.rd _ _ _)).tr (FrP.rm _ _)) rfl ?_ ?_ ?_ ?_ (fun p hp => ?_))⟩
      · show σ 23 10 + 1 = _
        rw [hrm, nI_1]
      · rw [sU_o (by decide), sU_s]
        simp only [upd]
        rw [if_neg (by omega), sU_o (by decide), sU_s]
        simp only [upd]
        rw [if_neg (by omega), sU_o (by decide), sU_o (by decide), sU_s]
        simp [upd, hk]
      · rw [sU_o (by decide), sU_s]
        simp only [upd]
        rw [if_neg (by omega), sU_o (by decide), sU_s]
        simp [upd]
      · rw [sU_o (by decide), sU_s]
        simp [upd]
      · rw [sU_o (by decide), sU_s]
        simp only [upd]
        rw [if_neg (by omega), sU_o (by decide), sU_s]
        simp only [upd]
        rw [if_neg (by omega), sU_o (by decide), sU_o (by decide), sU_s]
        simp only [upd]
        rw [if_neg (by omega)]
    · rw [h26'] at a2
      refine ⟨vp_in_nI (by omega) (by decide), brt (rr _ _ _) (hbad (q + 2) (by omega) (by omega) (fun p p1 p2 => ?_) (fun z => a2 ⟨z.1, ?_⟩) (by omega) _ ((fr2.tr (FrP.rd _ _ _)).tr (FrP.rm _ _)) rfl)⟩
      · rcases (show p = q ∨ p = q + 1 by omega) with rfl | rfl
        · exact hg
        · exact gq1
      · have := z.2
        rw [gOn, if_neg (by omega), if_neg (by omega), if_neg (by omega), if_neg (by omega), if_neg (by omega), decide_eq_true_eq] at this
        exact this
  · rw [h26] at a
    refine ⟨vp_in_nI (by omega) (by decide), brt' (rr _ _ _) (hbad (q + 1) (by omega) (by omega) (fun p p1 p2 => ?_) (fun z => a ⟨z.1, ?_⟩) (by omega) _ (fr1.tr (FrP.rd _ _ _)) rfl)⟩
    · rw [show p = q by omega]; exact hg
    · have := z.2
      rw [gOn, if_neg (by omega), if_neg (by omega), if_neg (by omega), if_neg (by omega), if_pos (by omega), decide_eq_true_eq] at this
      exact this
end PARSE
