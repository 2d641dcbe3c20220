section SHEETOPS
variable {g : GG} {d : Nat} {σ : St}
theorem toN {x : Int32} {hi : Int} (h : inR x 0 hi) : ∃ k : Nat, x = nI k ∧ (k : Int) ≤ hi ∧ k < 2147483648 := ⟨x.toInt.toNat, nI_x h.1, by omega, by have := fb_rng x; omega⟩
theorem in3 {k : Nat} (h : (k : Int) ≤ 3) : inR (nI k) 0 3 := by
  have := nI_v (n := k) (by omega)
  omega
theorem m60 (k i : Nat) : (60 : Int32) * nI k + nI i = nI (60 * k + i) := by
  show nI 60 * nI k + nI i = _
  rw [pk_mul, nI_add]
/-- the sheets' part of the relation, behind a change of the sheet k -/
theorem RS_put {σ' : St} {k : Nat} (hS : RS σ) (hk : k < 4) (e : ∀ a, (2 ≤ a ∧ a ≤ 9) → a ≠ 2 + k → a ≠ 6 + k → σ' a = σ a) (e24 : ∀ j, j ≠ k → σ' 24 j = σ 24 j) (e25 : ∀ j, j ≠ k → σ' 25 j = σ 25 j) (e26 : ∀ j i, j < 4 → j ≠ k → i < 60 → σ' 26 (60 * j + i) = σ 26 (60 * j + i)) (h1 : RS1 σ' k) (h2 : ∀ i, i < 60 → σ' (6 + k) i = σ' 26 (60 * k + i)) : RS σ' := by
  refine ⟨fun j hj => ?_, fun j i hj hi => ?_⟩
  · by_cases hjk : j = k
    · subst hjk; exact h1
    · have := hS.1 j hj
      unfold RS1 at *
      rw [e (2 + j) (by omega) (by omega) (by omega), e24 j hjk, e25 j hjk]
      exact this
  · by_cases hjk : j = k
    · subst hjk; exact h2 i hi
    · rw [e (6 + j) (by omega) (by omega) (by omega), e26 j i hj hjk hi]
      exact hS.2 j i hj hi
/-- the whole relation, when only sheets and notes changed -/
theorem Rel_sh {σ' : St} (hR : Rel σ) (hS : RS σ') (e : ∀ a, 10 ≤ a → a ≠ 23 → a ≠ 24 → a ≠ 25 → a ≠ 26 → σ' a = σ a) (e0 : σ' 0 6 = σ 0 6) (e1 : σ' 23 1 = σ 23 1) (e5 : σ' 23 5 = σ 23 5) (e18 : σ' 23 18 = σ 23 18) (ef : σ' 0 7 = σ' 23 0) : Rel σ' := by
  obtain ⟨-, ⟨hh, n, hC, hN⟩, hT, hF⟩ := hR
  refine ⟨hS, ⟨hh, n, RC_fr hC (by rw [e 10 (by omega) (by omega) (by omega) (by omega) (by omega)]) e5 (fun a ha => e a (by omega) (by omega) (by omega) (by omega) (by omega)), RR_fr hN (by rw [e 18 (by omega) (by omega) (by omega) (by omega) (by omega)]) e18 (fun a ha => e a (by omega) (by omega) (by omega) (by omega) (by omega))⟩, by rw [e0, e1]; exact hT, ef⟩
theorem st_lose (x : Int32) (hR : Rel σ) : Dbl g (d + 2) M_X4_lose M_X5_lose [vI x] σ := by
  by_cases hx : inR x 0 3
  · obtain ⟨k, rfl, hk3, -⟩ := toN hx
    have hk : k < 4 := by omega
    have hi : vp_in (nI k) 4 := inR_in hx (by decide)
    have hcl : (nI k).toNatClampNeg = k := cl_n k (by omega)
    have fin : Rel (sU (sU σ (2 + k) 2 (-9)) 24 k (-9)) := by
      refine Rel_sh hR (RS_put hR.1 hk (fun a h1 h2 h3 => by rw [sU_o (by omega), sU_o (by omega)]) (fun j hj => by simp [sU, upd, hj, show (24 : Nat) ≠ 2 + k by omega]) (fun j hj => by rw [sU_o (by omega), sU_o (by omega)]) (fun j i h1 h2 h3 => by rw [sU_o (by omega), sU_o (by omega)]) (Or.inl ⟨?_, ?_⟩) (fun i hi => ?_)) (fun a h1 h2 h3 h4 h5 => by rw [sU_o (by omega), sU_o (by omega)]) ?_ ?_ ?_ ?_ ?_
      · rw [sU_o (by omega), sU_s]; simp [upd]
      · rw [sU_s]; simp [upd]
      · rw [sU_o (by omega), sU_o (by omega), sU_o (by omega), sU_o (by omega)]
        exact hR.1.2 k i hk hi
      all_goals simp only [sU_o (show (0 : Nat) ≠ 24 by decide), sU_o (show (23 : Nat) ≠ 24 by decide), sU_o (show (0 : Nat) ≠ 2 + k by omega), sU_o (show (23 : Nat) ≠ 2 + k by omega)]
      exact hR.2.2.2
    refine ME_of (S_X4_lose_0 (nI k) σ (isSheet_t hx (b1n ⟨hi, ?_⟩)))
    rw [hcl]
    have md : ∀ (r : Int32), (r = 1 ∧ ¬ σ 24 k = -9 ∨ r = 0 ∧ σ 24 k = -9) → ME g (d + 2) M_X5_lose [vR 23, vI (nI k)] (sU σ (2 + k) 2 (-9)) (qI fun r2 σ2 => r = r2 ∧ Rel σ2) := by
      intro r hr
      refine ME_of (S_X5_lose_0 (nI k) _ (isSheet5_t hx (b1n ⟨hi, ?_⟩)))
      rw [hcl, sU_o (show (24 : Nat) ≠ 2 + k by omega)]
      rcases hr with ⟨rfl, h9⟩ | ⟨rfl, h9⟩
      · exact brn' h9 ⟨rfl, fin⟩
      · exact brt' h9 ⟨rfl, fin⟩
    have hs := hR.1.1 k hk
    unfold RS1 at hs
    rcases hs with ⟨s1, s2⟩ | ⟨s1, s2, s3, s4⟩
    · exact isNothing_t hk (by rw [s1]; decide) (b1p (md 0 (Or.inr ⟨rfl, s2⟩)))
    · exact isNothing_f hk s1.1 (b0p (md 1 (Or.inl ⟨rfl, by rw [s4, fa_eq, tm9]; omega⟩)))
  · exact ME_of (S_X4_lose_0 x σ (isSheet_f hx (b0n (ME_of (S_X5_lose_0 x σ (isSheet5_f hx (b0n ⟨rfl, hR⟩)))))))
/-- a new row: all its cells are 0 -/
theorem l_renew {F : St → Prop} {k : Nat} (hk : k < 4) {a b : Int32} (σ0 : St) (hF : ∀ σ' : St, (∀ c, c ≠ 6 + k → σ' c = σ0 c) → (∀ j, j < 60 → σ' (6 + k) j = 0) → F σ') : ∀ (n i : Nat) (σ : St), i + n = 60 → (∀ c, c ≠ 6 + k → σ c = σ0 c) → (∀ j, j < i → σ (6 + k) j = 0) → VM g d M_X3_renew (qV F) 12 [(0, vR (2 + k)), (1, vI a), (2, vI b), (3, vI (nI i))] [] σ
  | 0, i, σ, hi, h1, h2 => S_X3_renew_12 hk a b (nI i) σ (brt (by rw [show i = 60 by omega]; decide) (hF σ h1 (fun j hj => h2 j (by omega))))
  | n + 1, i, σ, hi, h1, h2 => by
    refine S_X3_renew_12 hk a b (nI i) σ (brn (nI_ge (a := i) (b := 60) (by omega) (by decide)) ⟨vp_in_nI (by omega) (by decide), ?_⟩)
    rw [cl_n i (by omega), nI_1]
    refine l_renew hk σ0 hF n (i + 1) _ (by omega) (fun c hc => by rw [sU_o hc, h1 c hc]) (fun j hj => ?_)
    rw [sU_s]
    by_cases e : j = i
    · simp [upd, e]
    · simp only [upd, e, if_false]
      exact h2 j (by omega)
theorem m_renew {F : St → Prop} {k : Nat} (hk : k < 4) {a b : Int32} (hF : ∀ σ' : St, (∀ c, c ≠ 6 + k → c ≠ 2 + k → σ' c = σ c) → σ' (2 + k) 1 = a → σ' (2 + k) 2 = b → (∀ j, j < 60 → σ' (6 + k) j = 0) → F σ') : ME g d M_X3_renew [vR (2 + k), vI a, vI b] σ (qV F) := by
  refine ME_of (S_X3_renew_0 hk a b σ (l_renew hk (sU (sU σ (2 + k) 1 a) (2 + k) 2 b) (fun σ' h1 h2 => hF σ' (fun c hc hc2 => by rw [h1 c hc, sU_o hc2, sU_o hc2]) ?_ ?_ h2) 60 0 _ rfl (fun _ _ => rfl) (fun j hj => absurd hj (Nat.not_lt_zero j))))
  · rw [h1 _ (by omega), sU_s]
    simp [upd, sU_s]
  · rw [h1 _ (by omega), sU_s]
    simp [upd]
theorem l_sheet5 {F : Int32 → St → Prop} {k : Nat} (hk : k < 4) {a b : Int32} (σ0 : St) (hF : ∀ σ' : St, (∀ c, c ≠ 26 → σ' c = σ0 c) → (∀ j, (j < 60 * k ∨ 60 * k + 60 ≤ j) → σ' 26 j = σ0 26 j) → (∀ j, j < 60 → σ' 26 (60 * k + j) = 0) → F 1 σ') : ∀ (n i : Nat) (σ : St), i + n = 60 → (∀ c, c ≠ 26 → σ c = σ0 c) → (∀ j, (j < 60 * k ∨ 60 * k + 60 ≤ j) → σ 26 j = σ0 26 j) → (∀ j, j < i → σ 26 (60 * k + j) = 0) → VM g (d + 1) M_X5_sheet (qI F) 57 [(0, vR 23), (1, vI (nI k)), (2, vI a), (3, vI b), (4, vI (nI i))] [] σ
  | 0, i, σ, hi, h1, h3, h2 => S_X5_sheet_57 (nI k) a b (nI i) σ (brt (by rw [show i = 60 by omega]; decide) (hF σ h1 h3 (fun j hj => h2 j (by omega))))
  | n + 1, i, σ, hi, h1, h3, h2 => by
    refine S_X5_sheet_57 (nI k) a b (nI i) σ (brn (nI_ge (a := i) (b := 60) (by omega) (by decide)) ?_)
    rw [m60, cl_n (60 * k + i) (by omega), nI_1]
    refine ⟨vp_in_nI (by omega) (by decide), l_sheet5 hk σ0 hF n (i + 1) _ (by omega) (fun c hc => by rw [sU_o hc, h1 c hc]) (fun j hj => ?_) (fun j hj => ?_)⟩
    · rw [sU_s]
      simp only [upd]
      rw [if_neg (by omega)]
      exact h3 j hj
    · rw [sU_s]
      by_cases e : j = i
      · simp [upd, e]
      · simp only [upd]
        rw [if_neg (by omega)]
        exact h2 j (by omega)
theorem m_troubleOfNew {F : Int32 → St → Prop} {k lane n : Int32} (h : F (if ¬ inR k 0 3 then -1 else if ¬ inR lane 0 2 ∨ 60 < n.toInt then -2 else if n.toInt < 0 then -14 else 0) σ) : ME g (d + 1) M_X4_troubleOfNew [vR 0, vI k, vI lane, vI n] σ (qI F) := by
  refine ME_of (S_X4_troubleOfNew_0 k lane n σ (m_isSheet (fun a => b1n (m_isLane (fun b => b1p ⟨fun c => ⟨fun e => ?_, fun e => ?_⟩, fun c => ?_⟩) (fun b => b0p ?_))) (fun a => b0n ?_)))
  · rw [if_neg (not_not_intro a), if_neg (by ((try simp only [fa_lt, fa_le, fa_eq, Int32.reduceToInt, tm1, tm2, tm3, tm4, tm9, tm10, tm11, tm12, tm13, tm14, tm100] at *); omega)), if_neg (by ((try simp only [fa_lt, fa_le, fa_eq, Int32.reduceToInt, tm1, tm2, tm3, tm4, tm9, tm10, tm11, tm12, tm13, tm14, tm100] at *); omega))] at h
    exact h
  · rw [if_neg (not_not_intro a), if_neg (by ((try simp only [fa_lt, fa_le, fa_eq, Int32.reduceToInt, tm1, tm2, tm3, tm4, tm9, tm10, tm11, tm12, tm13, tm14, tm100] at *); omega)), if_pos (by ((try simp only [fa_lt, fa_le, fa_eq, Int32.reduceToInt, tm1, tm2, tm3, tm4, tm9, tm10, tm11, tm12, tm13, tm14, tm100] at *); omega))] at h
    exact h
  · rw [if_neg (not_not_intro a), if_pos (Or.inr (by ((try simp only [fa_lt, fa_le, fa_eq, Int32.reduceToInt, tm1, tm2, tm3, tm4, tm9, tm10, tm11, tm12, tm13, tm14, tm100] at *); omega)))] at h
    exact h
  · rw [if_neg (not_not_intro a), if_pos (Or.inl b)] at h
    exact h
  · rw [if_pos a] at h
    exact h
theorem st_sheet (x lane n : Int32) (hR : Rel σ) : Dbl g (d + 2) M_X4_sheet M_X5_sheet [vI x, vI lane, vI n] σ := by
  refine ME_of (S_X4_sheet_0 x lane n σ (m_troubleOfNew (m_noted ?_)))
  by_cases hx : inR x 0 3
  · rw [if_neg (not_not_intro hx)]
    by_cases hl : ¬ inR lane 0 2 ∨ 60 < n.toInt
    · rw [if_pos hl]
      refine brn (by decide) (ME_of (S_X5_sheet_0 x lane n _ (isSheet5_t hx (b1n ?_))))
      by_cases h2 : inR lane 0 2
      · exact isSort_t h2 (b1p (brn (by have := hl.resolve_left (not_not_intro h2); rw [fa_le]; simp; omega) ⟨rfl, Rel_n0 hR rfl⟩))
      · exact isSort_f h2 (b0p ⟨rfl, Rel_n0 hR rfl⟩)
    · rw [if_neg hl]
      have h2 : inR lane 0 2 := Decidable.not_not.mp (fun q => hl (Or.inl q))
      have h60 : ¬ 60 < n.toInt := fun q => hl (Or.inr q)
      by_cases hn : n.toInt < 0
      · rw [if_pos hn]
        refine brn (by decide) (ME_of (S_X5_sheet_0 x lane n _ (isSheet5_t hx (b1n (isSort_t h2 (b1p (brt (by rw [fa_le]; simp; omega) (brn (by rw [fa_le]; simp; omega) (m_fails ⟨rfl, Rel_note hR (fun a h0 h23 => by repeat rw [sU_o (by omega)]) rfl rfl rfl rfl rfl⟩)))))))))
      · rw [if_neg hn]
        obtain ⟨k, rfl, hk3, -⟩ := toN hx
        have hk : k < 4 := by omega
        have hi : vp_in (nI k) 4 := inR_in hx (by decide)
        have hcl : (nI k).toNatClampNeg = k := cl_n k (by omega)
        refine brt rfl ⟨hi, ?_⟩
        rw [hcl]
        refine m_renew hk (fun σ1 e1 e2 e3 e4 => ME_of (S_X5_sheet_0 (nI k) lane n _ (isSheet5_t hx (b1n (isSort_t h2 (b1p (brt (by rw [fa_le]; simp; omega) (brt (by rw [fa_le]; simp; omega) ⟨hi, ?_⟩))))))))
        rw [hcl]
        refine l_sheet5 hk _ (fun σ2 f1 f2 f3 => ⟨rfl, ?_⟩) 60 0 _ rfl (fun _ _ => rfl) (fun _ _ => rfl) (fun j hj => absurd hj (Nat.not_lt_zero j))
        have key : ∀ a, a ≠ 6 + k → a ≠ 2 + k → a ≠ 26 → a ≠ 25 → a ≠ 24 → a ≠ 23 → a ≠ 0 → σ2 a = σ a := fun a h1 h2 h3 h4 h5 h6 h7 => by
          rw [f1 a h3, sU_o h4, sU_o h5, sU_o h6, e1 a h1 h2, sU_o h7]
        refine Rel_sh hR (RS_put hR.1 hk (fun a h1 h2 h3 => key a h3 h2 (by omega) (by omega) (by omega) (by omega) (by omega)) (fun j hj => ?_) (fun j hj => ?_) (fun j i h1 h2 h3 => ?_) (Or.inr ?_) (fun i hi => ?_)) (fun a h1 h2 h3 h4 h5 => key a (by omega) (by omega) h5 h4 h3 h2 (by omega)) ?_ ?_ ?_ ?_ ?_
        · rw [f1 24 (by decide), sU_o (by decide), sU_s, sU_o (by decide), e1 24 (by omega) (by omega), sU_o (by decide)]
          simp [upd, hj]
        · rw [f1 25 (by decide), sU_s, sU_o (by decide), sU_o (by decide), e1 25 (by omega) (by omega), sU_o (by decide)]
          simp [upd, hj]
        · rw [f2 _ (by omega), sU_o (by decide), sU_o (by decide), sU_o (by decide), e1 26 (by omega) (by omega), sU_o (by decide)]
        · have q1 : σ2 (2 + k) 1 = lane := by rw [f1 _ (by omega), sU_o (by omega), sU_o (by omega), sU_o (by omega), e2]
          have q2 : σ2 (2 + k) 2 = n := by rw [f1 _ (by omega), sU_o (by omega), sU_o (by omega), sU_o (by omega), e3]
          have q3 : σ2 25 k = n := by rw [f1 25 (by decide), sU_s]; simp [upd]
          have q4 : σ2 24 k = lane := by rw [f1 24 (by decide), sU_o (by decide), sU_s]; simp [upd]
          rw [q1, q2, q3, q4]
          exact ⟨⟨by omega, by omega⟩, rfl, h2, rfl⟩
        · rw [f3 i hi, f1 _ (by omega), sU_o (by omega), sU_o (by omega), sU_o (by omega), e4 i hi]
        · rw [f1 0 (by decide), sU_o (by decide), sU_o (by decide), sU_o (by decide), e1 0 (by omega) (by omega), sU_s]
          rfl
        · rw [f1 23 (by decide), sU_o (by decide), sU_o (by decide), sU_s, e1 23 (by omega) (by omega), sU_o (by decide)]
          rfl
        · rw [f1 23 (by decide), sU_o (by decide), sU_o (by decide), sU_s, e1 23 (by omega) (by omega), sU_o (by decide)]
          rfl
        · rw [f1 23 (by decide), sU_o (by decide), sU_o (by decide), sU_s, e1 23 (by omega) (by omega), sU_o (by decide)]
          rfl
        · rw [f1 0 (by decide), sU_o (by decide), sU_o (by decide), sU_o (by decide), e1 0 (by omega) (by omega), sU_s, f1 23 (by decide), sU_o (by decide), sU_o (by decide), sU_s]
          rfl
  · rw [if_pos hx]
    exact brn (by decide) (ME_of (S_X5_sheet_0 x lane n _ (isSheet5_f hx (b0n ⟨rfl, Rel_n0 hR rfl⟩))))
end SHEETOPS
