section STVIS
variable {g : GG} {d : Nat} {σ : St} {F : Int32 → St → Prop}
/-- the class's scratch, and what it notes -/
def FrC (σ σ' : St) : Prop := (∀ a, a ≠ 0 → a ≠ 14 → a ≠ 15 → a ≠ 16 → a ≠ 17 → a ≠ 22 → σ' a = σ a) ∧ σ' 0 6 = σ 0 6
def FrX (σ σ' : St) : Prop := (∀ a, a ≠ 23 → a ≠ 31 → a ≠ 32 → a ≠ 33 → σ' a = σ a) ∧ σ' 23 1 = σ 23 1 ∧ σ' 23 5 = σ 23 5 ∧ σ' 23 18 = σ 23 18
theorem Rel_fin {σ1 σ2 : St} {z : Int32} (hR : Rel σ) (f1 : FrC σ σ1) (f2 : FrX σ1 σ2) (e1 : σ1 0 7 = z) (e2 : σ2 23 0 = z) : Rel σ2 := by
  refine Rel_gen hR (fun a ha => ?_) ?_ ?_ ?_ ?_ ?_
  · rw [f2.1 a (by omega) (by omega) (by omega) (by omega), f1.1 a (by omega) (by omega) (by omega) (by omega) (by omega) (by omega)]
  · rw [f2.1 0 (by decide) (by decide) (by decide) (by decide), f1.2]
  · rw [f2.2.1, f1.1 23 (by decide) (by decide) (by decide) (by decide) (by decide) (by decide)]
  · rw [f2.2.2.1, f1.1 23 (by decide) (by decide) (by decide) (by decide) (by decide) (by decide)]
  · rw [f2.2.2.2, f1.1 23 (by decide) (by decide) (by decide) (by decide) (by decide) (by decide)]
  · rw [f2.1 0 (by decide) (by decide) (by decide) (by decide), e1, e2]
theorem FrT_nt {σ1 : St} {z : Int32} (f : FrT σ σ1) : FrC σ (sU σ1 0 7 z) := ⟨fun a a0 _ _ _ _ a22 => by rw [sU_o a0, f.1 a a22 a0], by rw [sU_s]; show upd (σ1 0) 7 z 6 = _; simp only [upd]; rw [if_neg (by decide), f.2 6 (by decide)]⟩
theorem FrC_H {σ1 σ2 : St} (f : FrC σ σ1) (f2 : FrH σ1 σ2) : FrC σ σ2 := ⟨fun a a0 a14 a15 a16 a17 a22 => by rw [f2 a a14 a15 a16 a17, f.1 a a0 a14 a15 a16 a17 a22], by rw [f2 0 (by decide) (by decide) (by decide) (by decide), f.2]⟩
theorem FrX_L {σ1 : St} {z : Int32} (f : FrL (sU σ 23 0 z) σ1) : FrX σ σ1 := by
  refine ⟨fun a a23 _ _ a33 => by rw [f.1 a a33 a23, sU_o a23], ?_, ?_, ?_⟩
  all_goals rw [f.2 _ (by decide) (by decide), sU_s]
  all_goals simp [upd]
theorem FrX_G {σ1 σ2 : St} (f : FrX σ σ1) (f2 : FrG σ1 σ2) : FrX σ σ2 := ⟨fun a a23 a31 a32 a33 => by rw [f2.1 a a31 a32 a23, f.1 a a23 a31 a32 a33], by rw [f2.2 1 (by decide), f.2.1], by rw [f2.2 5 (by decide), f.2.2.1], by rw [f2.2 18 (by decide), f.2.2.2]⟩
theorem FrX_0 {z : Int32} : FrX σ (sU σ 23 0 z) := by
  refine ⟨fun a a23 _ _ _ => by rw [sU_o a23], ?_, ?_, ?_⟩
  all_goals rw [sU_s]
  all_goals simp [upd]
/-- the heads that are told -/
def rvF (σ : St) (k i : Nat) : Nat → Nat := fun v => (σ (6 + k) (i + v)).toInt.toNat
theorem rv_ok {k i n h : Nat} (hq : rowOk (fun v => σ (6 + k) (i + v)) n h = true) : ∀ v, v < n → rvF σ k i v < h ∧ σ (6 + k) (i + v) = nI (rvF σ k i v) := by
  intro v hv
  have := rowOk_iff.mp hq v hv
  refine ⟨?_, nI_x this.1⟩
  show (σ (6 + k) (i + v)).toInt.toNat < h
  omega
theorem tv_0 {h k : Nat} {lane i n : Int32} (e : tvV σ h k lane i n = 0) : inR lane 0 2 ∧ inR n 0 20 ∧ ¬ h = 0 ∧ rowOk (fun v => σ (6 + k) (i.toNatClampNeg + v)) n.toNatClampNeg h = true := by
  unfold tvV at e
  split at e
  · cases e
  · rename_i a
    split at e
    · rename_i b
      exact absurd e (fc10 (fcN_le _ _ _ _ _) b).2.2
    · split at e
      · cases e
      · rename_i c
        split at e
        · rename_i q
          exact ⟨Decidable.not_not.mp (fun z => a (Or.inl z)), Decidable.not_not.mp (fun z => a (Or.inr z)), c, q⟩
        · cases e
/-- the class's visits() -/
theorem vis_c {h m : Nat} {x lane i n w : Int32} (hR : Rel σ) (hC : RC σ h) (hx : inR x 0 3) (hw : inR w 0 34 ∧ Qs w.toInt.toNat)
    (K1 : tvV σ h x.toNatClampNeg lane i n ≠ 0 → ∀ σ', FrC σ σ' → σ' 0 7 = ntV (tvV σ h x.toNatClampNeg lane i n) → F (tvV σ h x.toNatClampNeg lane i n) σ')
    (K2 : tvV σ h x.toNatClampNeg lane i n = 0 → ∀ σ', FrC σ σ' → σ' 0 7 = 0 → F (visV h (laC σ) (σ 13) (rvF σ x.toNatClampNeg i.toNatClampNeg) n.toNatClampNeg w.toInt.toNat) σ') :
    ME g (d + 4) M_X4_visits [vR 0, vI x, vI lane, vI i, vI n, vI w] σ (qI F) := by
  obtain ⟨h5, e10, e23, hc⟩ := id hC
  refine ME_of (S_X4_visits_0 x lane i n w σ (m_isQuestion (fun _ _ => ?_) (fun q => absurd hw q)))
  have ect : ctV σ h x lane i n 1 = tvV σ h x.toNatClampNeg lane i n := by rw [ctV, if_neg (not_not_intro hx), if_neg (by decide)]
  refine m_tv hR h5 e10 (fun σ1 f1 q1 => ?_)
  rw [ect] at q1 ⊢
  refine m_noted ?_
  by_cases e0 : tvV σ h x.toNatClampNeg lane i n = 0
  · rw [e0]
    have K2 := K2 e0
    obtain ⟨q2, q3⟩ := q1 e0
    obtain ⟨hl, hn, h0, hrow⟩ := tv_0 e0
    obtain ⟨n', rfl, hn3, nb⟩ := toN hn
    rw [cl_n n' nb] at q3 hrow K2
    have rv := rv_ok hrow
    have fc : FrC σ (sU σ1 0 7 (ntV 0)) := FrT_nt f1
    have eL : laC (sU σ1 0 7 (ntV 0)) = laC σ := by
      show (fun i => lsV2 ((sU σ1 0 7 (ntV 0)) 11 i) ((sU σ1 0 7 (ntV 0)) 12 i)) = _
      rw [fc.1 11 (by decide) (by decide) (by decide) (by decide) (by decide) (by decide), fc.1 12 (by decide) (by decide) (by decide) (by decide) (by decide) (by decide)]
    refine brt rfl ?_
    obtain ⟨w', rfl, hw3, wb⟩ := toN hw.1
    have vw := nI_v wb
    rw [vw] at K2 hw
    have hQ : Qs w' := by simpa using hw.2
    have K2 : ∀ σ', FrC σ σ' → σ' 0 7 = 0 → F (visV h (laC σ) (σ 13) (rvF σ x.toNatClampNeg i.toNatClampNeg) n' w') σ' := by simpa using K2
    have e1 : (nI w' = 1) ↔ w' = 1 := nI_eq (b := 1) (by omega) (by decide)
    have e07 : ∀ τ, FrH (sU σ1 0 7 (ntV 0)) τ → τ 0 7 = 0 := fun τ f => by rw [f 0 (by decide) (by decide) (by decide) (by decide), sU_s]; rfl
    refine m_firstWrong (σ := sU σ1 0 7 (ntV 0)) (h := h) (n := n') (r := rvF σ x.toNatClampNeg i.toNatClampNeg) h5 (by omega) (fun v hv => (rv v hv).1) ?_ ?_ ?_ ?_ ?_ (fun kk ek hkk σ2 f2 => ?_) (fun y ek σ2 hA hW f2 => ?_)
    · rw [fc.1 10 (by decide) (by decide) (by decide) (by decide) (by decide) (by decide)]; exact e10
    · intro j hj
      rw [fc.1 11 (by decide) (by decide) (by decide) (by decide) (by decide) (by decide)]
      exact (hc j hj).2.2.2.1
    · intro j hj
      rw [fc.1 12 (by decide) (by decide) (by decide) (by decide) (by decide) (by decide)]
      exact (hc j hj).2.2.2.2.1
    · rw [sU_s]; exact q2
    · intro v hv
      rw [sU_o (by decide), q3 v hv]
      exact (rv v hv).2
    · rw [eL] at ek
      have K := K2 σ2 (FrC_H fc f2) (e07 σ2 f2)
      unfold visV at K
      rw [ek] at K
      have K : F (if w' = 1 then nI kk else (-100) - nI kk) σ2 := K
      refine ⟨fun a => brn ?_ ?_, fun a => ?_⟩
      · rw [fa_eq, tm9, nI_v (by omega)]; omega
      · have a' : ¬ w' = 1 := fun z => a (e1.mpr z)
        rw [if_neg a'] at K
        exact K
      · rw [if_pos (e1.mp a)] at K
        exact K
    · rw [eL] at ek hA hW
      have hD : DsH h y.1 y.2.2 := goF_ds n' 0 hs0 y (fun v v1 v2 => (rv v (by omega)).1) (hs0_ds h5) ek
      refine ⟨fun a => brt rfl ⟨fun b => ?_, fun b => ?_⟩, fun a => ?_⟩
      · have a' : ¬ w' = 1 := fun z => a (e1.mpr z)
        have b' : 10 ≤ w' := (nI_leI (a := 10) (b := w') (by decide) (by omega)).mp b
        have ed : nI w' / 10 = nI (w' / 10) := pk_div (a := w') (d := 10) (by omega) (by decide) (by decide)
        have er : nI w' - nI w' / 10 * 10 = nI (w' % 10) := pk_rem (a := w') (d := 10) (by omega) (by decide) (by decide)
        rw [er, ed]
        refine m_answerOfHead h5 ?_ hA hQ b' ?_
        · rw [(FrC_H fc f2).1 10 (by decide) (by decide) (by decide) (by decide) (by decide) (by decide)]; exact e10
        · have K := K2 σ2 (FrC_H fc f2) (e07 σ2 f2)
          unfold visV at K
          rw [ek] at K
          rw [(FrC_H fc f2).1 13 (by decide) (by decide) (by decide) (by decide) (by decide) (by decide)]
          have K : F (if w' = 1 then -9 else ansV h (σ 13) y w') σ2 := K
          rw [if_neg a'] at K
          exact K
      · have a' : ¬ w' = 1 := fun z => a (e1.mpr z)
        have b' : ¬ 10 ≤ w' := fun z => b (nI_le z (by omega))
        refine m_answerOfHall (kn := σ 13) h5 hA hD (by unfold Qs at hQ; omega) a' (fun σ3 f3 => ?_)
        have K := K2 σ3 (FrC_H (FrC_H fc f2) f3) (e07 σ3 (f2.tr f3))
        unfold visV at K
        rw [ek] at K
        have K : F (if w' = 1 then -9 else ansV h (σ 13) y w') σ3 := K
        rw [if_neg a'] at K
        exact K
      · have K := K2 σ2 (FrC_H fc f2) (e07 σ2 f2)
        unfold visV at K
        rw [ek] at K
        have K : F (if w' = 1 then -9 else ansV h (σ 13) y w') σ2 := K
        rw [if_pos (e1.mp a)] at K
        exact K
  · exact brn e0 (K1 e0 _ (FrT_nt f1) (by rw [sU_s]; simp [upd]))
/-- the reference's -/
theorem vis_m {h k : Nat} {τ : St} {lane i n w : Int32} (hk : k < 4) (hR : Rel σ) (hC : RC σ h) (f : FrC σ τ) (hl : inR lane 0 2) (hn : inR n 0 20) (hw : inR w 0 34 ∧ Qs w.toInt.toNat)
    (K1 : tvV σ h k lane i n ≠ 0 → ∀ σ', FrX τ σ' → σ' 23 0 = ntV (tvV σ h k lane i n) → F (tvV σ h k lane i n) σ')
    (K2 : tvV σ h k lane i n = 0 → ∀ σ', FrX τ σ' → σ' 23 0 = 0 → F (visV h (laC σ) (σ 13) (rvF σ k i.toNatClampNeg) n.toNatClampNeg w.toInt.toNat) σ') :
    ME g (d + 4) M_X5_visits [vR 23, vI (nI k), vI lane, vI i, vI n, vI w] τ (qI F) := by
  obtain ⟨h5, e10, e23, hc⟩ := id hC
  have hx : inR (nI k) 0 3 := in3 (by omega)
  have g : ∀ a, a ≠ 0 → a ≠ 14 → a ≠ 15 → a ≠ 16 → a ≠ 17 → a ≠ 22 → a ≠ 23 → (sU τ 23 0 0) a = σ a := fun a a0 a14 a15 a16 a17 a22 a23 => by rw [sU_o a23, f.1 a a0 a14 a15 a16 a17 a22]
  have g5 : (sU τ 23 0 0) 23 5 = nI h := by
    rw [sU_s]
    show upd (τ 23) 0 0 5 = _
    simp only [upd]
    rw [if_neg (by decide), f.1 23 (by decide) (by decide) (by decide) (by decide) (by decide) (by decide), e23]
  have hS : RS (sU τ 23 0 0) := RS_fr hR.1 (fun a ha => g a (by omega) (by omega) (by omega) (by omega) (by omega) (by omega) (by omega))
  have etv : tvV (sU τ 23 0 0) h k lane i n = tvV σ h k lane i n := by
    unfold tvV
    rw [g (2 + k) (by omega) (by omega) (by omega) (by omega) (by omega) (by omega) (by omega), g (6 + k) (by omega) (by omega) (by omega) (by omega) (by omega) (by omega) (by omega)]
  refine ME_of (S_X5_visits_0 (nI k) lane i n w τ (isSheet5_t hx (b1n (m_isRow (fun _ _ => b1p (m_isWhat (fun _ _ => b1n ?_) (fun q => absurd hw q))) (fun q => absurd ⟨hl, hn⟩ q)))))
  refine m_layVisits hk hS h5 hl hn g5 rfl (fun σ1 f1 q0 q1 => ?_)
  rw [etv] at q0 q1 ⊢
  have fx : FrX τ σ1 := FrX_L f1
  by_cases e0 : tvV σ h k lane i n = 0
  · rw [e0]
    rw [e0] at q0
    have K2 := K2 e0
    obtain ⟨q2, q3⟩ := q1 e0
    obtain ⟨-, -, h0, hrow⟩ := tv_0 e0
    obtain ⟨n', rfl, hn3, nb⟩ := toN hn
    rw [cl_n n' nb] at q3 hrow K2
    have rv := rv_ok hrow
    have fz : ∀ a, a ≠ 0 → a ≠ 14 → a ≠ 15 → a ≠ 16 → a ≠ 17 → a ≠ 22 → a ≠ 23 → a ≠ 33 → σ1 a = σ a := fun a a0 a14 a15 a16 a17 a22 a23 a33 => by rw [f1.1 a a33 a23, g a a0 a14 a15 a16 a17 a22 a23]
    refine brt rfl ?_
    obtain ⟨w', rfl, hw3, wb⟩ := toN hw.1
    have vw := nI_v wb
    rw [vw] at K2 hw
    have hQ : Qs w' := by simpa using hw.2
    have K2 : ∀ σ', FrX τ σ' → σ' 23 0 = 0 → F (visV h (laC σ) (σ 13) (rvF σ k i.toNatClampNeg) n' w') σ' := by simpa using K2
    have e1 : (nI w' = 1) ↔ w' = 1 := nI_eq (b := 1) (by omega) (by decide)
    have e29 : ∀ j, j < h → σ 29 j = σ 13 j := fun j hj => (hc j hj).2.2.1.symm
    refine m_go (σ := σ1) (h := h) (n := n') (la := laC σ) (r := rvF σ k i.toNatClampNeg) h5 (by omega) (fun v hv => (rv v hv).1) ?_ ?_ ?_ q2 ?_ (fun kk ek hkk σ2 f2 => ?_) (fun y ek σ2 hA hW f2 => ?_)
    · rw [f1.2 5 (by decide) (by decide)]; exact g5
    · intro j hj
      rw [fz 27 (by decide) (by decide) (by decide) (by decide) (by decide) (by decide) (by decide) (by decide), fz 28 (by decide) (by decide) (by decide) (by decide) (by decide) (by decide) (by decide) (by decide), ← (hc j hj).1, ← (hc j hj).2.1]
    · intro j hj
      have := lsV2_in (hc j hj).2.2.2.1 (hc j hj).2.2.2.2.1
      exact ⟨show (0 : Int) ≤ (lsV2 (σ 11 j) (σ 12 j)).toInt by omega, this.2⟩
    · intro v hv
      rw [q3 v hv, g (6 + k) (by omega) (by omega) (by omega) (by omega) (by omega) (by omega) (by omega)]
      exact (rv v hv).2
    · have K := K2 σ2 (FrX_G fx f2) (by rw [f2.2 0 (by decide), q0]; rfl)
      unfold visV at K
      rw [ek] at K
      have K : F (if w' = 1 then nI kk else (-100) - nI kk) σ2 := K
      refine ⟨fun a => brn' ?_ ?_, fun a => ?_⟩
      · rw [fa_eq, tm9, nI_v (by omega)]; omega
      · have a' : ¬ w' = 1 := fun z => a (e1.mpr z)
        rw [if_neg a'] at K
        exact K
      · rw [if_pos (e1.mp a)] at K
        exact K
    · have hD : DsH h y.1 y.2.2 := goF_ds n' 0 hs0 y (fun v v1 v2 => (rv v (by omega)).1) (hs0_ds h5) ek
      have kz : ∀ σ3, FrG σ2 σ3 → F (if w' = 1 then -9 else ansV h (σ 13) y w') σ3 := fun σ3 f3 => by
        have K := K2 σ3 (FrX_G (FrX_G fx f2) f3) (by rw [f3.2 0 (by decide), f2.2 0 (by decide), q0]; rfl)
        unfold visV at K
        rw [ek] at K
        exact K
      refine ⟨fun a => brt' rfl ?_, fun a => ?_⟩
      · have a' : ¬ w' = 1 := fun z => a (e1.mpr z)
        refine m_tellVisits h5 hA hW hD hQ a' (fun σ3 f3 => ?_)
        have K := kz σ3 f3
        rw [if_neg a'] at K
        have ea : ansV h (σ2 29) y w' = ansV h (σ 13) y w' := by
          unfold ansV
          by_cases hp : w' % 10 < h
          · rw [f2.1 29 (by decide) (by decide) (by decide), fz 29 (by decide) (by decide) (by decide) (by decide) (by decide) (by decide) (by decide) (by decide), e29 _ hp]
          · rw [if_pos hp, if_pos hp]
        rw [ea]
        exact K
      · have K := kz σ2 (FrG.rf σ2)
        rw [if_pos (e1.mp a)] at K
        exact K
  · exact brn e0 (K1 e0 _ fx q0)
/-- a refusal by -1 or -2 -/
theorem tv_ref {A : Int32 → St → Prop} {h : Nat} {x lane i n fit r : Int32} (hR : Rel σ) (h5 : h ≤ 5) (e10 : σ 10 3 = nI h) (e : ctV σ h x lane i n fit = r) (ne : ¬ r = 0) (nt : ntV r = 0) (md : ∀ τ, FrC σ τ → τ 0 7 = 0 → F r τ) : ME g (d + 3) M_X4_troubleOfVisits [vR 0, vI x, vI lane, vI i, vI n, vI fit] σ (qI (fun r4 σ5 => ME g (d + 3) M_X4_noted [vR 0, vI r4] σ5 (qI (fun r7 σ8 => ((r7 = 0 → A r7 σ8) ∧ (¬ r7 = 0 → F r7 σ8)))))) := by
  refine m_tv hR h5 e10 (fun σ1 f1 _ => m_noted ?_)
  rw [e]
  exact brn ne (md _ (FrT_nt f1) (by rw [sU_s]; simp [upd, nt]))
theorem st_visits (x lane i n w : Int32) (hR : Rel σ) : Dbl g (d + 4) M_X4_visits M_X5_visits [vI x, vI lane, vI i, vI n, vI w] σ := by
  obtain ⟨h, m, hC, hN⟩ := hR.2.1
  obtain ⟨h5, e10, e23, hc⟩ := id hC
  by_cases hx : inR x 0 3
  · by_cases hw : inR w 0 34 ∧ Qs w.toInt.toNat
    · by_cases hln : inR lane 0 2 ∧ inR n 0 20
      · obtain ⟨k, rfl, hk3, -⟩ := toN hx
        have hk : k < 4 := by omega
        have hcl : (nI k).toNatClampNeg = k := cl_n k (by omega)
        refine vis_c (m := m) hR hC hx hw (fun e σ1 f1 q1 => ?_) (fun e σ1 f1 q1 => ?_)
        · rw [hcl] at e q1 ⊢
          exact vis_m hk hR hC f1 hln.1 hln.2 hw (fun _ σ2 f2 q2 => ⟨rfl, Rel_fin hR f1 f2 q1 q2⟩) (fun e2 => absurd e2 e)
        · rw [hcl] at e ⊢
          exact vis_m hk hR hC f1 hln.1 hln.2 hw (fun e2 => absurd e e2) (fun _ σ2 f2 q2 => ⟨rfl, Rel_fin hR f1 f2 q1 q2⟩)
      · refine ME_of (S_X4_visits_0 x lane i n w σ (m_isQuestion (fun _ _ => tv_ref (r := -2) hR h5 e10 ?_ (by decide) (by decide) (fun τ f q => ?_)) (fun q => absurd hw q)))
        · rw [ctV, if_neg (not_not_intro hx), if_neg (by decide), tvV, if_pos (by omega)]
        · exact ME_of (S_X5_visits_0 x lane i n w τ (isSheet5_t hx (b1n (m_isRow (fun a b => absurd ⟨a, b⟩ hln) (fun _ => b0p ⟨rfl, Rel_fin hR f FrX_0 q rfl⟩)))))
    · refine ME_of (S_X4_visits_0 x lane i n w σ (m_isQuestion (fun a b => absurd ⟨a, b⟩ hw) (fun _ => tv_ref (r := -2) hR h5 e10 ?_ (by decide) (by decide) (fun τ f q => ?_))))
      · rw [ctV, if_neg (not_not_intro hx), if_pos rfl]
      · exact ME_of (S_X5_visits_0 x lane i n w τ (isSheet5_t hx (b1n (m_isRow (fun _ _ => b1p (m_isWhat (fun a b => absurd ⟨a, b⟩ hw) (fun _ => b0n ⟨rfl, Rel_fin hR f FrX_0 q rfl⟩))) (fun _ => b0p ⟨rfl, Rel_fin hR f FrX_0 q rfl⟩)))))
  · have md : ∀ τ, FrC σ τ → τ 0 7 = 0 → ME g (d + 4) M_X5_visits [vR 23, vI x, vI lane, vI i, vI n, vI w] τ (qI fun r2 σ2 => -1 = r2 ∧ Rel σ2) := fun τ f q => ME_of (S_X5_visits_0 x lane i n w τ (isSheet5_f hx (b0n ⟨rfl, Rel_fin hR f FrX_0 q rfl⟩)))
    exact ME_of (S_X4_visits_0 x lane i n w σ (m_isQuestion (fun _ _ => tv_ref (r := -1) hR h5 e10 (by rw [ctV, if_pos hx]) (by decide) (by decide) md) (fun _ => tv_ref (r := -1) hR h5 e10 (by rw [ctV, if_pos hx]) (by decide) (by decide) md)))
end STVIS
