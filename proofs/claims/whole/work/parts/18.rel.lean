/-! the relation between the class's cells and the reference's -/
section TF
variable {g : GG} {d : Nat} {σ : St} {F : Int32 → St → Prop}
theorem isSheet_t {x : Int32} (h : inR x 0 3) (k : F 1 σ) : ME g d M_X4_isSheet [vI x] σ (qI F) := m_isSheet (fun _ => k) (fun a => absurd h a)
theorem isSheet_f {x : Int32} (h : ¬ inR x 0 3) (k : F 0 σ) : ME g d M_X4_isSheet [vI x] σ (qI F) := m_isSheet (fun a => absurd a h) (fun _ => k)
theorem isLane_t {x : Int32} (h : inR x 0 2) (k : F 1 σ) : ME g d M_X4_isLane [vI x] σ (qI F) := m_isLane (fun _ => k) (fun a => absurd h a)
theorem isLane_f {x : Int32} (h : ¬ inR x 0 2) (k : F 0 σ) : ME g d M_X4_isLane [vI x] σ (qI F) := m_isLane (fun a => absurd a h) (fun _ => k)
theorem isSheet5_t {x : Int32} (h : inR x 0 3) (k : F 1 σ) : ME g (d + 1) M_X5_isSheet [vI x] σ (qI F) := m_isSheet5 (fun _ => k) (fun a => absurd h a)
theorem isSheet5_f {x : Int32} (h : ¬ inR x 0 3) (k : F 0 σ) : ME g (d + 1) M_X5_isSheet [vI x] σ (qI F) := m_isSheet5 (fun a => absurd a h) (fun _ => k)
theorem isSort_t {x : Int32} (h : inR x 0 2) (k : F 1 σ) : ME g (d + 1) M_X5_isSort [vI x] σ (qI F) := m_isSort (fun _ => k) (fun a => absurd h a)
theorem isSort_f {x : Int32} (h : ¬ inR x 0 2) (k : F 0 σ) : ME g (d + 1) M_X5_isSort [vI x] σ (qI F) := m_isSort (fun a => absurd a h) (fun _ => k)
theorem within_t {x lo hi : Int32} (h : inR x lo.toInt hi.toInt) (k : F 1 σ) : ME g d M_X5_within [vI x, vI lo, vI hi] σ (qI F) := m_within (fun _ => k) (fun a => absurd h a)
theorem within_f {x lo hi : Int32} (h : ¬ inR x lo.toInt hi.toInt) (k : F 0 σ) : ME g d M_X5_within [vI x, vI lo, vI hi] σ (qI F) := m_within (fun a => absurd a h) (fun _ => k)
theorem has_t {x : Int32} {h : Nat} (h5 : h ≤ 5) (c : σ 10 3 = nI h) (hx : inR x 0 ((h : Int) - 1)) (k : F 1 σ) : ME g d M_X0_has [vR 10, vI x] σ (qI F) := m_has (fun _ => k) (fun a => absurd (by rw [c, nI_v (by omega)]; exact hx) a)
theorem has_f {x : Int32} {h : Nat} (h5 : h ≤ 5) (c : σ 10 3 = nI h) (hx : ¬ inR x 0 ((h : Int) - 1)) (k : F 0 σ) : ME g d M_X0_has [vR 10, vI x] σ (qI F) := m_has (fun a => absurd (by rw [c, nI_v (by omega)] at a; exact a) hx) (fun _ => k)
theorem isHead_t {x : Int32} {h : Nat} (h5 : h ≤ 5) (c : σ 23 5 = nI h) (hx : inR x 0 ((h : Int) - 1)) (k : F 1 σ) : ME g d M_X5_isHead [vR 23, vI x] σ (qI F) := m_isHead (fun _ => k) (fun a => absurd (by rw [c, nI_v (by omega)]; exact hx) a)
theorem isHead_f {x : Int32} {h : Nat} (h5 : h ≤ 5) (c : σ 23 5 = nI h) (hx : ¬ inR x 0 ((h : Int) - 1)) (k : F 0 σ) : ME g d M_X5_isHead [vR 23, vI x] σ (qI F) := m_isHead (fun a => absurd (by rw [c, nI_v (by omega)] at a; exact a) hx) (fun _ => k)
theorem isNothing_t {k : Nat} (hk : k < 4) (h : (σ (2 + k) 2).toInt < 0) (kk : F 1 σ) : ME g d M_X3_isNothing [vR (2 + k)] σ (qI F) := m_isNothing hk (fun _ => kk) (fun a => absurd h (by omega))
theorem isNothing_f {k : Nat} (hk : k < 4) (h : 0 ≤ (σ (2 + k) 2).toInt) (kk : F 0 σ) : ME g d M_X3_isNothing [vR (2 + k)] σ (qI F) := m_isNothing hk (fun a => absurd a (by omega)) (fun _ => kk)
theorem hasCells_t {k : Nat} (hk : k < 4) {i n : Int32} (h : hasC (σ (2 + k) 2) i n) (kk : F 1 σ) : ME g d M_X3_hasCells [vR (2 + k), vI i, vI n] σ (qI F) := m_hasCells hk (fun _ => kk) (fun a => absurd h a)
theorem hasCells_f {k : Nat} (hk : k < 4) {i n : Int32} (h : ¬ hasC (σ (2 + k) 2) i n) (kk : F 0 σ) : ME g d M_X3_hasCells [vR (2 + k), vI i, vI n] σ (qI F) := m_hasCells hk (fun a => absurd a h) (fun _ => kk)
end TF
/-- a SHEET: nothing, or a row of a lane and a length; its cells -/
def RS1 (σ : St) (k : Nat) : Prop := (σ (2 + k) 2 = -9 ∧ σ 24 k = -9) ∨ (inR (σ (2 + k) 2) 0 60 ∧ σ 25 k = σ (2 + k) 2 ∧ inR (σ (2 + k) 1) 0 2 ∧ σ 24 k = σ (2 + k) 1)
def RS (σ : St) : Prop := (∀ k, k < 4 → RS1 σ k) ∧ ∀ k i, k < 4 → i < 60 → σ (6 + k) i = σ 26 (60 * k + i)
def RC (σ : St) (h : Nat) : Prop := h ≤ 5 ∧ σ 10 3 = nI h ∧ σ 23 5 = nI h ∧ ∀ p, p < h → σ 11 p = σ 27 p ∧ σ 12 p = σ 28 p ∧ σ 13 p = σ 29 p ∧ inR (σ 11 p) 0 2 ∧ inR (σ 12 p) 1 9 ∧ inR (σ 13 p) 0 5
def RR (σ : St) (h n : Nat) : Prop := n ≤ 8 ∧ σ 18 3 = nI n ∧ σ 23 18 = nI n ∧ ∀ r, r < n → σ 19 r = σ 34 r ∧ σ 20 r = σ 35 r ∧ σ 21 r = σ 36 r ∧ inR (σ 19 r) 0 20 ∧ inR (σ 20 r) 0 ((h : Int) - 1)
def Rel (σ : St) : Prop := RS σ ∧ (∃ h n, RC σ h ∧ RR σ h n) ∧ σ 0 6 = σ 23 1 ∧ σ 0 7 = σ 23 0
theorem RS_fr {σ σ' : St} (h : RS σ) (e : ∀ a, (2 ≤ a ∧ a ≤ 9) ∨ (24 ≤ a ∧ a ≤ 26) → σ' a = σ a) : RS σ' := by
  refine ⟨fun k hk => ?_, fun k i hk hi => ?_⟩
  · have := h.1 k hk
    unfold RS1 at *
    rw [e (2 + k) (by omega), e 24 (by omega), e 25 (by omega)]
    exact this
  · rw [e (6 + k) (by omega), e 26 (by omega)]
    exact h.2 k i hk hi
theorem RC_fr {σ σ' : St} {h : Nat} (hC : RC σ h) (e1 : σ' 10 3 = σ 10 3) (e2 : σ' 23 5 = σ 23 5) (e : ∀ a, (11 ≤ a ∧ a ≤ 13) ∨ (27 ≤ a ∧ a ≤ 29) → σ' a = σ a) : RC σ' h := by
  obtain ⟨h1, h2, h3, h4⟩ := hC
  refine ⟨h1, e1.trans h2, e2.trans h3, fun p hp => ?_⟩
  rw [e 11 (by omega), e 12 (by omega), e 13 (by omega), e 27 (by omega), e 28 (by omega), e 29 (by omega)]
  exact h4 p hp
theorem RR_fr {σ σ' : St} {h n : Nat} (hC : RR σ h n) (e1 : σ' 18 3 = σ 18 3) (e2 : σ' 23 18 = σ 23 18) (e : ∀ a, (19 ≤ a ∧ a ≤ 21) ∨ (34 ≤ a ∧ a ≤ 36) → σ' a = σ a) : RR σ' h n := by
  obtain ⟨h1, h2, h3, h4⟩ := hC
  refine ⟨h1, e1.trans h2, e2.trans h3, fun p hp => ?_⟩
  rw [e 19 (by omega), e 20 (by omega), e 21 (by omega), e 34 (by omega), e 35 (by omega), e 36 (by omega)]
  exact h4 p hp
/-- both sides' notes of a fault, alike -/
theorem Rel_note {σ σ' : St} (h : Rel σ) (e : ∀ a, a ≠ 0 → a ≠ 23 → σ' a = σ a) (e0 : σ' 0 6 = σ 0 6) (e1 : σ' 23 1 = σ 23 1) (e5 : σ' 23 5 = σ 23 5) (e18 : σ' 23 18 = σ 23 18) (ef : σ' 0 7 = σ' 23 0) : Rel σ' := by
  obtain ⟨hS, ⟨hh, n, hC, hN⟩, hT, hF⟩ := h
  refine ⟨RS_fr hS (fun a ha => e a (by omega) (by omega)), ⟨hh, n, RC_fr hC (by rw [e 10 (by decide) (by decide)]) e5 (fun a ha => e a (by omega) (by omega)), RR_fr hN (by rw [e 18 (by decide) (by decide)]) e18 (fun a ha => e a (by omega) (by omega))⟩, by rw [e0, e1]; exact hT, ef⟩
/-- one call of both, in the law's order: equal answers, and the relation behind them -/
def Dbl (g : GG) (d : Nat) (Mc Mm : MD) (as : List MV) (σ : St) : Prop := ME g d Mc (vR 0 :: as) σ (qI fun r1 σ1 => ME g d Mm (vR 23 :: as) σ1 (qI fun r2 σ2 => r1 = r2 ∧ Rel σ2))
def DblL (g : GG) (d : Nat) (Mc Mm : MD) (as : List MV) (σ : St) : Prop := ME g d Mc (vR 0 :: as) σ (qL fun r1 σ1 => ME g d Mm (vR 23 :: as) σ1 (qL fun r2 σ2 => r1 = r2 ∧ Rel σ2))
section STEPS
variable {g : GG} {d : Nat} {σ : St}
theorem st_trace (hR : Rel σ) : Dbl g d M_X4_trace M_X5_trace [] σ := ME_of (S_X4_trace_0 σ (ME_of (S_X5_trace_0 σ ⟨hR.2.2.1, hR⟩)))
theorem st_fault (hR : Rel σ) : Dbl g d M_X4_fault M_X5_fault [] σ := ME_of (S_X4_fault_0 σ (ME_of (S_X5_fault_0 σ ⟨hR.2.2.2, hR⟩)))
theorem st_many (x : Int32) (hR : Rel σ) : Dbl g d M_X4_many M_X5_many [vI x] σ := by
  obtain ⟨h, n, hC, hN⟩ := hR.2.1
  refine ME_of (S_X4_many_0 x σ ⟨fun a => ?_, fun a => ⟨fun b => ?_, fun b => ?_⟩⟩)
  · exact ME_of (S_X5_many_0 x σ (brt' a ⟨by rw [hC.2.1, hC.2.2.1], hR⟩))
  · exact ME_of (S_X5_many_0 x σ (brn' a (brt' b ⟨by rw [hN.2.1, hN.2.2.1], hR⟩)))
  · exact ME_of (S_X5_many_0 x σ (brn' a (brn' b ⟨rfl, hR⟩)))
theorem st_ofHead (p w : Int32) (hR : Rel σ) : Dbl g (d + 1) M_X4_ofHead M_X5_ofHead [vI p, vI w] σ := by
  obtain ⟨h, n, hC, hN⟩ := hR.2.1
  obtain ⟨h5, c1, c2, hc⟩ := hC
  by_cases hp : inR p 0 ((h : Int) - 1)
  · have hi : vp_in p 5 := inR_in hp (by omega)
    obtain ⟨e1, e2, e3, e4, e5, e6⟩ := hc p.toNatClampNeg (by rw [tcl]; omega)
    refine ME_of (S_X4_ofHead_0 p w σ (has_t h5 c1 hp (b1n ⟨fun a => ⟨hi, ?_⟩, fun a => ⟨fun b => ⟨hi, ?_⟩, fun b => ⟨fun c => ⟨hi, ?_⟩, fun c => ⟨fun e => ⟨hi, m_lasting e4 ?_⟩, fun e => ?_⟩⟩⟩⟩)))
    · exact ME_of (S_X5_ofHead_0 p w σ (isHead_t h5 c2 hp (b1n (brt a ⟨hi, e1, hR⟩))))
    · exact ME_of (S_X5_ofHead_0 p w σ (isHead_t h5 c2 hp (b1n (brn a (brt b ⟨hi, e2, hR⟩)))))
    · exact ME_of (S_X5_ofHead_0 p w σ (isHead_t h5 c2 hp (b1n (brn a (brn b (brt c ⟨hi, e3, hR⟩))))))
    · exact ME_of (S_X5_ofHead_0 p w σ (isHead_t h5 c2 hp (b1n (brn a (brn b (brn c (brt e (m_lasts ⟨hp.1, by omega⟩ ⟨by rw [e1, e2], hR⟩))))))))
    · exact ME_of (S_X5_ofHead_0 p w σ (isHead_t h5 c2 hp (b1n (brn a (brn b (brn c (brn e ⟨rfl, hR⟩)))))))
  · exact ME_of (S_X4_ofHead_0 p w σ (has_f h5 c1 hp (b0n (ME_of (S_X5_ofHead_0 p w σ (isHead_f h5 c2 hp (b0n ⟨rfl, hR⟩)))))))
end STEPS
