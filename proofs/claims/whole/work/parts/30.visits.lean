/-! visits() -/
abbrev laC (σ : St) : Nat → Int32 := fun i => lsV2 (σ 11 i) (σ 12 i)
def ansV (h : Nat) (kn : Nat → Int32) (y : HS) (w : Nat) : Int32 := if w = 0 then ownF y.1 h 0 0 else if w = 2 then nI (hmF h 10 y.1 y.2.2 0) else if w = 3 then y.2.2 else if w = 4 then mostF y.2.1 h 0 (-9) else if ¬ w % 10 < h then -9 else if w < 20 then y.1 (w % 10) else if w < 30 then y.2.1 (w % 10) else foolF y.1 (nI (w % 10)) (kn (w % 10)) h 0 0
def visV (h : Nat) (la kn : Nat → Int32) (r : Nat → Nat) (n w : Nat) : Int32 := match goF la r n 0 hs0 with
  | .inl k => if w = 1 then nI k else (-100) - nI k
  | .inr y => if w = 1 then -9 else ansV h kn y w
def Qs (w : Nat) : Prop := w ≤ 4 ∨ (10 ≤ w ∧ w ≤ 14) ∨ (20 ≤ w ∧ w ≤ 24) ∨ (30 ≤ w ∧ w ≤ 34)
theorem hStep_ds {h : Nat} {la : Nat → Int32} {x x' : HS} {p : Nat} (hp : p < h) (hD : DsH h x.1 x.2.2) (e : hStep la x p = some x') : DsH h x'.1 x'.2.2 := by
  unfold hStep at e
  split at e
  · rename_i h9
    cases e
    have := DsH_sw hp hD
    rw [h9] at this
    exact this
  · split at e
    · cases e
      exact DsH_sw hp hD
    · cases e
theorem goF_ds {h : Nat} {la : Nat → Int32} {r : Nat → Nat} : ∀ (n k : Nat) (x x' : HS), (∀ v, k ≤ v → v < k + n → r v < h) → DsH h x.1 x.2.2 → goF la r n k x = .inr x' → DsH h x'.1 x'.2.2
  | 0, k, x, x', _, hD, e => by
    rw [goF] at e
    cases e
    exact hD
  | n + 1, k, x, x', hr, hD, e => by
    rw [goF] at e
    cases es : hStep la x (r k) with
    | none => rw [es] at e; cases e
    | some y =>
      rw [es] at e
      exact goF_ds n (k + 1) y x' (fun v v1 v2 => hr v (by omega) (by omega)) (hStep_ds (hr k (by omega) (by omega)) hD es) e
theorem hs0_ds {h : Nat} (h5 : h ≤ 5) : DsH h hs0.1 hs0.2.2 := by
  have v : ∀ i, i < h → (nI i).toInt = i := fun i hi => nI_v (by omega)
  refine ⟨fun i j hi hj e => ?_, fun i hi e => ?_, Or.inl rfl, fun i hi => Or.inr ?_⟩
  · exact (nI_eq (by omega) (by omega)).mp e
  · have e2 : nI i = -9 := e
    rw [fa_eq, tm9, v i hi] at e2
    omega
  · show inR (nI i) _ _
    have := v i hi
    omega
section VIS
variable {g : GG} {d h : Nat} {σ : St} {F : Int32 → St → Prop}
theorem m_firstWrong {r : Nat → Nat} {n : Nat} (h5 : h ≤ 5) (hn : n ≤ 20) (hr : ∀ v, v < n → r v < h) (e10 : σ 10 3 = nI h) (hk : ∀ i, i < h → inR (σ 11 i) 0 2) (hw : ∀ i, i < h → inR (σ 12 i) 1 9) (e5 : σ 0 5 = nI n) (e22 : ∀ v, v < n → σ 22 v = nI (r v))
    (h1 : ∀ k, goF (laC σ) r n 0 hs0 = .inl k → k < n → ∀ σ', FrH σ σ' → F (nI k) σ') (h2 : ∀ x', goF (laC σ) r n 0 hs0 = .inr x' → ∀ σ', AgC σ' h (laC σ) x' → WfH h (laC σ) x' → FrH σ σ' → F (-9) σ') : ME g (d + 3) M_X4_firstWrong [vR 0] σ (qI F) := by
  have hW : WfH h (laC σ) hs0 := hs0_wf h5 (fun i hi => by have := lsV2_in (hk i hi) (hw i hi); exact ⟨show (0 : Int) ≤ (lsV2 (σ 11 i) (σ 12 i)).toInt by omega, this.2⟩)
  refine ME_of (S_X4_firstWrong_0 σ (m_open h5 e10 hk (fun σ' hA f => ?_)))
  exact l_firstWrong h5 hn hr σ' (by rw [f 0 (by decide) (by decide) (by decide) (by decide), e5]) (fun v hv => by rw [f 22 (by decide) (by decide) (by decide) (by decide), e22 v hv]) hs0 (fun k e hk σ'' f' => h1 k e hk σ'' (f.tr f')) (fun x' e σ'' a b f' => h2 x' e σ'' a b (f.tr f')) n 0 hs0 σ' (by omega) hA hW (FrH.rf σ') rfl
theorem m_go {la : Nat → Int32} {r : Nat → Nat} {n : Nat} (h5 : h ≤ 5) (hn : n ≤ 20) (hr : ∀ v, v < n → r v < h) (e10 : σ 23 5 = nI h) (hla : ∀ i, i < h → lsV2 (σ 27 i) (σ 28 i) = la i) (hl : ∀ i, i < h → 0 ≤ (la i).toInt ∧ (la i).toInt ≤ 20) (e5 : σ 23 15 = nI n) (e22 : ∀ v, v < n → σ 33 v = nI (r v))
    (h1 : ∀ k, goF la r n 0 hs0 = .inl k → k < n → ∀ σ', FrG σ σ' → F (nI k) σ') (h2 : ∀ x', goF la r n 0 hs0 = .inr x' → ∀ σ', AgM σ' h la x' → WfH h la x' → FrG σ σ' → F (-9) σ') : ME g (d + 3) M_X5_go [vR 23] σ (qI F) := by
  have hW : WfH h la hs0 := hs0_wf h5 hl
  refine ME_of (S_X5_go_0 σ (m_begin h5 e10 (fun σ' hA f => ?_)))
  exact l_go h5 hn hr σ' (by rw [f.2 15 (by decide), e5]) (fun v hv => by rw [f.1 33 (by decide) (by decide) (by decide), e22 v hv]) hs0 (fun k e hk σ'' f' => h1 k e hk σ'' (f.tr f')) (fun x' e σ'' a b f' => h2 x' e σ'' a b (f.tr f')) n 0 hs0 σ' (by omega) (AgM_la hA hla) hW (FrG.rf σ') rfl
theorem m_answerOfHall {la kn : Nat → Int32} {y : HS} {w : Nat} (h5 : h ≤ 5) (hA : AgC σ h la y) (hD : DsH h y.1 y.2.2) (hw : w ≤ 4) (hw1 : w ≠ 1) (K : ∀ σ', FrH σ σ' → F (ansV h kn y w) σ') : ME g (d + 2) M_X4_answerOfHall [vR 0, vI (nI w)] σ (qI F) := by
  refine ME_of (S_X4_answerOfHall_0 (nI w) σ ?_)
  rcases (show w = 0 ∨ w = 2 ∨ w = 3 ∨ w = 4 by omega) with rfl | rfl | rfl | rfl
  · exact brt rfl (ME_of (S_X1_ownWearers_0 σ (l_own h5 hA h 0 0 (by omega) (K σ (FrH.rf σ)))))
  · refine brn (by decide) (brn (by decide) (brt rfl (ME_of (S_X1_visitsHome_0 σ (l_visitsHome h5 σ (R := hmF h 10 y.1 y.2.2 0) (fun σ' f => K σ' f) 10 0 y σ rfl hA hD (FrH.rf σ) rfl)))))
  · refine brn (by decide) (brn (by decide) (brn (by decide) (brt rfl ?_)))
    rw [hA.2.1]
    exact K σ (FrH.rf σ)
  · exact brn (by decide) (brn (by decide) (brn (by decide) (brn (by decide) (ME_of (S_X1_mostTaken_0 σ (l_most h5 hA h 0 (-9) (by omega) (Or.inl rfl) (K σ (FrH.rf σ))))))))
theorem m_answerOfHead {la : Nat → Int32} {y : HS} {w : Nat} (h5 : h ≤ 5) (e10 : σ 10 3 = nI h) (hA : AgC σ h la y) (hw : Qs w) (hw1 : 10 ≤ w) (K : F (ansV h (σ 13) y w) σ) : ME g (d + 1) M_X4_answerOfHead [vR 0, vI (nI (w / 10)), vI (nI (w % 10))] σ (qI F) := by
  have v := nI_v (n := w % 10) (by omega)
  have hq : w % 10 ≤ 4 := by unfold Qs at hw; omega
  rw [ansV, if_neg (by omega), if_neg (by omega), if_neg (by omega), if_neg (by omega)] at K
  by_cases hp : w % 10 < h
  · rw [if_neg (not_not_intro hp)] at K
    have hi : inR (nI (w % 10)) 0 ((h : Int) - 1) := by omega
    have hin : vp_in (nI (w % 10)) 5 := vp_in_nI (by omega) (by decide)
    refine ME_of (S_X4_answerOfHead_0 (nI (w / 10)) (nI (w % 10)) σ (has_t h5 e10 hi (b1n ?_)))
    rw [cl_n (w % 10) (by omega), (hA.2.2 _ hp).1, (hA.2.2 _ hp).2.1]
    have el : ∀ z : Nat, z < 10 → ((nI (w / 10) = nI z) ↔ w / 10 = z) := fun z hz => nI_eq (by unfold Qs at hw; omega) (by omega)
    refine ⟨fun a => ⟨hin, ?_⟩, fun a => ⟨fun b => ⟨hin, ?_⟩, fun b => ⟨hin, ?_⟩⟩⟩
    · have := (el 1 (by decide)).mp a
      rw [if_pos (by omega)] at K
      exact K
    · have := (el 2 (by decide)).mp b
      rw [if_neg (by omega), if_pos (by omega)] at K
      exact K
    · have a' : ¬ w / 10 = 1 := fun z => a ((el 1 (by decide)).mpr z)
      have b' : ¬ w / 10 = 2 := fun z => b ((el 2 (by decide)).mpr z)
      rw [if_neg (by omega), if_neg (by omega)] at K
      exact ME_of (S_X1_fooling_0 (nI (w % 10)) (σ 13 (w % 10)) σ (l_fooling h5 hA h 0 0 (by omega) K))
  · rw [if_pos hp] at K
    exact ME_of (S_X4_answerOfHead_0 (nI (w / 10)) (nI (w % 10)) σ (has_f h5 e10 (by omega) (b0n K)))
theorem m_tellVisits {la : Nat → Int32} {y : HS} {w : Nat} (h5 : h ≤ 5) (hA : AgM σ h la y) (hW : WfH h la y) (hD : DsH h y.1 y.2.2) (hw : Qs w) (hw1 : w ≠ 1) (K : ∀ σ', FrG σ σ' → F (ansV h (σ 29) y w) σ') : ME g (d + 2) M_X5_tellVisits [vR 23, vI (nI w)] σ (qI F) := by
  refine ME_of (S_X5_tellVisits_0 (nI w) σ ?_)
  have el : ∀ z : Nat, z < 10 → ((nI w = nI z) ↔ w = z) := fun z hz => nI_eq (by unfold Qs at hw; omega) (by omega)
  have K0 := K σ (FrG.rf σ)
  refine ⟨fun a => ?_, fun a => brn (fun q => hw1 ((el 1 (by decide)).mp q)) ⟨fun b => ?_, fun b => ⟨fun c => ?_, fun c => ⟨fun e => ?_, fun e => ?_⟩⟩⟩⟩
  · have := (el 0 (by decide)).mp a
    subst this
    exact ME_of (S_X5_atHome_0 σ (l_atHome h5 hA h 0 0 (by omega) K0))
  · have := (el 2 (by decide)).mp b
    subst this
    refine ME_of (S_X5_home_0 σ (l_home h5 σ (R := hmF h 10 y.1 y.2.2 0) (fun σ' f => K σ' f) 10 0 y σ (by decide) ?_ hA hD (FrG.rf σ) rfl))
    have := cA_le y.1 h
    unfold muH
    split <;> omega
  · have := (el 3 (by decide)).mp c
    subst this
    rw [hA.2.1]
    exact K0
  · have := (el 4 (by decide)).mp e
    subst this
    exact ME_of (S_X5_worn_0 σ (l_worn h5 hA hW h 0 (-9) (by omega) (Or.inl rfl) K0))
  · have a' : ¬ w = 0 := fun z => a ((el 0 (by decide)).mpr z)
    have b' : ¬ w = 2 := fun z => b ((el 2 (by decide)).mpr z)
    have c' : ¬ w = 3 := fun z => c ((el 3 (by decide)).mpr z)
    have e' : ¬ w = 4 := fun z => e ((el 4 (by decide)).mpr z)
    have w10 : 10 ≤ w := by unfold Qs at hw; omega
    have w34 : w ≤ 34 := by unfold Qs at hw; omega
    have hq : w % 10 ≤ 4 := by unfold Qs at hw; omega
    have er : nI w - nI w / 10 * 10 = nI (w % 10) := pk_rem (a := w) (d := 10) (by omega) (by decide) (by decide)
    rw [er, cl_n (w % 10) (by omega)]
    rw [ansV, if_neg a', if_neg b', if_neg c', if_neg e'] at K0
    have v := nI_v (n := w % 10) (by omega)
    by_cases hp : w % 10 < h
    · rw [if_neg (not_not_intro hp)] at K0
      have hin : vp_in (nI (w % 10)) 5 := vp_in_nI (by omega) (by decide)
      refine isHead_t h5 hA.1 (by omega) (b1n ?_)
      rw [(hA.2.2 _ hp).1, (hA.2.2 _ hp).2.1]
      refine ⟨fun q => ⟨fun q2 => ?_, fun q2 => ⟨hin, ?_⟩⟩, fun q => ⟨hin, ?_⟩⟩
      · have := (nI_leI (a := 30) (b := w) (by decide) (by omega)).mp q2
        rw [if_neg (by omega), if_neg (by omega)] at K0
        exact ME_of (S_X5_fooled_0 (nI (w % 10)) σ (l_fooled h5 hp hA h 0 0 (by omega) K0))
      · have q1 := (nI_leI (a := 20) (b := w) (by decide) (by omega)).mp q
        have q3 : ¬ 30 ≤ w := fun z => q2 (nI_le z (by omega))
        rw [if_neg (by omega), if_pos (by omega)] at K0
        exact K0
      · have q3 : ¬ 20 ≤ w := fun z => q (nI_le z (by omega))
        rw [if_pos (by omega)] at K0
        exact K0
    · rw [if_pos hp] at K0
      exact isHead_f h5 hA.1 (by omega) (b0n K0)
theorem m_isQuestion {w : Int32} (h1 : inR w 0 34 → Qs w.toInt.toNat → F 1 σ) (h0 : ¬ (inR w 0 34 ∧ Qs w.toInt.toNat) → F 0 σ) : ME g d M_X4_isQuestion [vI w] σ (qI F) := by
  have z0 : (0 : Int32).toInt = 0 := rfl
  have z40 : (40 : Int32).toInt = 40 := rfl
  refine ME_of (S_X4_isQuestion_0 w σ ⟨fun a => h0 (fun q => by rw [fa_lt, z0] at a; omega), fun a => ⟨fun b => h0 (fun q => by rw [fa_le, z40] at b; omega), fun b => ?_⟩⟩)
  rw [fa_lt, z0] at a
  rw [fa_le, z40] at b
  obtain ⟨q, rfl, hq, qb⟩ := toN (x := w) (hi := 39) ⟨by omega, by omega⟩
  have v := nI_v qb
  have er : nI q - nI q / 10 * 10 = nI (q % 10) := pk_rem (a := q) (d := 10) (by omega) (by decide) (by decide)
  rw [er]
  rw [v] at h1 h0
  refine ⟨fun c => h0 (fun z => ?_), fun c => h1 ?_ ?_⟩
  · have := (nI_leI (a := 5) (b := q % 10) (by decide) (by omega)).mp c
    have z2 := z.2
    unfold Qs at z2
    omega
  · have : ¬ 5 ≤ q % 10 := fun z => c (nI_le z (by omega))
    exact ⟨by omega, by omega⟩
  · have : ¬ 5 ≤ q % 10 := fun z => c (nI_le z (by omega))
    unfold Qs
    omega
theorem m_isWhat {w : Int32} (h1 : inR w 0 34 → Qs w.toInt.toNat → F 1 σ) (h0 : ¬ (inR w 0 34 ∧ Qs w.toInt.toNat) → F 0 σ) : ME g (d + 1) M_X5_isWhat [vI w] σ (qI F) := by
  have z : ∀ n : Nat, n < 100 → (nI n).toInt = n := fun n hn => nI_v (by omega)
  have y1 := z 4 (by decide)
  have y2 := z 10 (by decide)
  have y3 := z 14 (by decide)
  have y4 := z 20 (by decide)
  have y5 := z 24 (by decide)
  have y6 := z 30 (by decide)
  have y7 := z 34 (by decide)
  have y0 : (0 : Int32).toInt = 0 := rfl
  have c1 : (4 : Int32).toInt = 4 := rfl
  have c2 : (10 : Int32).toInt = 10 := rfl
  have c3 : (14 : Int32).toInt = 14 := rfl
  have c4 : (20 : Int32).toInt = 20 := rfl
  have c5 : (24 : Int32).toInt = 24 := rfl
  have c6 : (30 : Int32).toInt = 30 := rfl
  have c7 : (34 : Int32).toInt = 34 := rfl
  refine ME_of (S_X5_isWhat_0 w σ (m_within (fun a => b1n (h1 (by omega) (by unfold Qs; omega))) (fun a => b0n (m_within (fun b => b1n (h1 (by omega) (by unfold Qs; omega))) (fun b => b0n (m_within (fun c => b1n (h1 (by omega) (by unfold Qs; omega))) (fun c => b0n (m_within (fun e => b1p (h1 (by omega) (by unfold Qs; omega))) (fun e => b0p (h0 (fun q => ?_)))))))))))
  have q2 := q.2
  unfold Qs at q2
  omega
theorem m_isRow {lane n : Int32} (h1 : inR lane 0 2 → inR n 0 20 → F 1 σ) (h0 : ¬ (inR lane 0 2 ∧ inR n 0 20) → F 0 σ) : ME g (d + 2) M_X5_isRow [vI lane, vI n] σ (qI F) :=
  ME_of (S_X5_isRow_0 lane n σ (m_isSort (fun a => b1p (m_within (fun b => b1p (h1 a b)) (fun b => b0p (h0 (fun q => b q.2))))) (fun a => b0p (h0 (fun q => a q.1)))))
end VIS
