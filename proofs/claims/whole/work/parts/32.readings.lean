/-! READINGS: which are so -/
def rdF (rt rh rf w : Nat → Int32) (t : Int32) : Nat → Nat → Bool
  | 0, _ => true
  | n + 1, k => if rt k = t ∧ ¬ w (rh k).toNatClampNeg = rf k then false else rdF rt rh rf w t n (k + 1)
def rbF (rt : Nat → Int32) (m : Int32) : Nat → Nat → Bool
  | 0, _ => false
  | n + 1, k => if rt k ≤ m then rbF rt m n (k + 1) else true
def soF (la : Nat → Int32) (r : Nat → Nat) (rd : (Nat → Int32) → Int32 → Bool) : Nat → Nat → HS → Bool
  | 0, _, _ => true
  | n + 1, k, x => match hStep la x (r k) with
    | none => false
    | some x' => if rd x'.1 (nI (k + 1)) = true then soF la r rd n (k + 1) x' else false
def allV (la : Nat → Int32) (r : Nat → Nat) (n : Nat) (rt rh rf : Nat → Int32) (c : Nat) : Bool := !(rbF rt (nI n) c 0) && (rdF rt rh rf hs0.1 0 c 0 && soF la r (fun w t => rdF rt rh rf w t c 0) n 0 hs0)
def AgRC (σ : St) (c : Nat) (rt rh rf : Nat → Int32) : Prop := σ 18 3 = nI c ∧ ∀ r, r < c → σ 19 r = rt r ∧ σ 20 r = rh r ∧ σ 21 r = rf r
def AgRM (σ : St) (c : Nat) (rt rh rf : Nat → Int32) : Prop := σ 23 18 = nI c ∧ ∀ r, r < c → σ 34 r = rt r ∧ σ 35 r = rh r ∧ σ 36 r = rf r
theorem AgRC.fr {σ σ' : St} {c : Nat} {rt rh rf : Nat → Int32} (h : AgRC σ c rt rh rf) (f : ∀ a, (18 ≤ a ∧ a ≤ 21) → σ' a = σ a) : AgRC σ' c rt rh rf := by
  refine ⟨by rw [f 18 (by omega)]; exact h.1, fun r hr => ?_⟩
  rw [f 19 (by omega), f 20 (by omega), f 21 (by omega)]
  exact h.2 r hr
theorem AgRM.fr {σ σ' : St} {c : Nat} {rt rh rf : Nat → Int32} (h : AgRM σ c rt rh rf) (f : ∀ a, (34 ≤ a ∧ a ≤ 36) → σ' a = σ a) (f18 : σ' 23 18 = σ 23 18) : AgRM σ' c rt rh rf := by
  refine ⟨by rw [f18]; exact h.1, fun r hr => ?_⟩
  rw [f 34 (by omega), f 35 (by omega), f 36 (by omega)]
  exact h.2 r hr
section RDS
variable {g : GG} {d h c : Nat} {σ : St} {la rt rh rf : Nat → Int32} {x : HS} {F : Int32 → St → Prop}
theorem l_areSo (h5 : h ≤ 5) (c8 : c ≤ 8) (hA : AgC σ h la x) (hN : AgRC σ c rt rh rf) (hh : ∀ r, r < c → inR (rh r) 0 ((h : Int) - 1)) (t : Int32) (h1 : rdF rt rh rf x.1 t c 0 = true → F 1 σ) (h0 : rdF rt rh rf x.1 t c 0 = false → F 0 σ) : ∀ (n k : Nat), k + n = c → rdF rt rh rf x.1 t n k = rdF rt rh rf x.1 t c 0 → VM g d M_X2_areSo (qI F) 2 [(0, vR 18), (1, vI t), (2, vR 14), (3, vI (nI k))] [] σ
  | 0, k, hk, e => S_X2_areSo_2 t (nI k) σ (brt (by rw [hN.1]; exact nI_le (by omega) (by omega)) (h1 e.symm))
  | n + 1, k, hk, e => by
    obtain ⟨a1, a2, a3⟩ := hN.2 k (by omega)
    have hk2 := hh k (by omega)
    refine S_X2_areSo_2 t (nI k) σ (brn (by rw [hN.1]; exact nI_ge (by omega) (by omega)) ?_)
    rw [cl_n k (by omega), nI_1, a1, a2, a3, (hA.2.2 _ (cl_lt hk2)).1]
    rw [rdF] at e
    refine ⟨vp_in_nI (by omega) (by decide), fun q => ?_, fun q => ⟨inR_in hk2 (by omega), fun q2 => ?_, fun q2 => ?_⟩⟩
    · rw [if_neg (fun z => q z.1)] at e
      exact l_areSo h5 c8 hA hN hh t h1 h0 n (k + 1) (by omega) e
    · rw [if_neg (fun z => z.2 q2)] at e
      exact l_areSo h5 c8 hA hN hh t h1 h0 n (k + 1) (by omega) e
    · rw [if_pos ⟨q, q2⟩] at e
      exact h0 e.symm
theorem m_areSoC (h5 : h ≤ 5) (c8 : c ≤ 8) (hA : AgC σ h la x) (hN : AgRC σ c rt rh rf) (hh : ∀ r, r < c → inR (rh r) 0 ((h : Int) - 1)) (t : Int32) (h1 : rdF rt rh rf x.1 t c 0 = true → F 1 σ) (h0 : rdF rt rh rf x.1 t c 0 = false → F 0 σ) : ME g d M_X2_areSo [vR 18, vI t, vR 14] σ (qI F) :=
  ME_of (S_X2_areSo_0 t σ (l_areSo h5 c8 hA hN hh t h1 h0 c 0 (by omega) rfl))
theorem l_behind (h5 : h ≤ 5) (c8 : c ≤ 8) (hA : AgM σ h la x) (hN : AgRM σ c rt rh rf) (hh : ∀ r, r < c → inR (rh r) 0 ((h : Int) - 1)) (t : Int32) (h1 : rdF rt rh rf x.1 t c 0 = true → F 1 σ) (h0 : rdF rt rh rf x.1 t c 0 = false → F 0 σ) : ∀ (n k : Nat), k + n = c → rdF rt rh rf x.1 t n k = rdF rt rh rf x.1 t c 0 → VM g d M_X5_areSoBehind (qI F) 2 [(0, vR 23), (1, vI t), (2, vI (nI k))] [] σ
  | 0, k, hk, e => S_X5_areSoBehind_2 t (nI k) σ (brt (by rw [hN.1]; exact nI_le (by omega) (by omega)) (h1 e.symm))
  | n + 1, k, hk, e => by
    obtain ⟨a1, a2, a3⟩ := hN.2 k (by omega)
    have hk2 := hh k (by omega)
    refine S_X5_areSoBehind_2 t (nI k) σ (brn (by rw [hN.1]; exact nI_ge (by omega) (by omega)) ?_)
    rw [cl_n k (by omega), nI_1, a1, a2, a3, (hA.2.2 _ (cl_lt hk2)).1]
    rw [rdF] at e
    refine ⟨vp_in_nI (by omega) (by decide), fun q => ?_, fun q => ⟨inR_in hk2 (by omega), fun q2 => ?_, fun q2 => ?_⟩⟩
    · rw [if_neg (fun z => q z.1)] at e
      exact l_behind h5 c8 hA hN hh t h1 h0 n (k + 1) (by omega) e
    · rw [if_neg (fun z => z.2 q2)] at e
      exact l_behind h5 c8 hA hN hh t h1 h0 n (k + 1) (by omega) e
    · rw [if_pos ⟨q, q2⟩] at e
      exact h0 e.symm
theorem m_behind (h5 : h ≤ 5) (c8 : c ≤ 8) (hA : AgM σ h la x) (hN : AgRM σ c rt rh rf) (hh : ∀ r, r < c → inR (rh r) 0 ((h : Int) - 1)) (t : Int32) (h1 : rdF rt rh rf x.1 t c 0 = true → F 1 σ) (h0 : rdF rt rh rf x.1 t c 0 = false → F 0 σ) : ME g d M_X5_areSoBehind [vR 23, vI t] σ (qI F) :=
  ME_of (S_X5_areSoBehind_0 t σ (l_behind h5 c8 hA hN hh t h1 h0 c 0 (by omega) rfl))
theorem l_reach (c8 : c ≤ 8) (hN : AgRC σ c rt rh rf) (m : Int32) (h1 : rbF rt m c 0 = true → F 1 σ) (h0 : rbF rt m c 0 = false → F 0 σ) : ∀ (n k : Nat), k + n = c → rbF rt m n k = rbF rt m c 0 → VM g d M_X2_reachBeyond (qI F) 2 [(0, vR 18), (1, vI m), (2, vI (nI k))] [] σ
  | 0, k, hk, e => S_X2_reachBeyond_2 m (nI k) σ (brt (by rw [hN.1]; exact nI_le (by omega) (by omega)) (h0 e.symm))
  | n + 1, k, hk, e => by
    obtain ⟨a1, a2, a3⟩ := hN.2 k (by omega)
    refine S_X2_reachBeyond_2 m (nI k) σ (brn (by rw [hN.1]; exact nI_ge (by omega) (by omega)) ?_)
    rw [cl_n k (by omega), nI_1, a1]
    rw [rbF] at e
    refine ⟨vp_in_nI (by omega) (by decide), fun q => ?_, fun q => ?_⟩
    · rw [if_pos q] at e
      exact l_reach c8 hN m h1 h0 n (k + 1) (by omega) e
    · rw [if_neg q] at e
      exact h1 e.symm
theorem m_reach (c8 : c ≤ 8) (hN : AgRC σ c rt rh rf) (m : Int32) (h1 : rbF rt m c 0 = true → F 1 σ) (h0 : rbF rt m c 0 = false → F 0 σ) : ME g d M_X2_reachBeyond [vR 18, vI m] σ (qI F) :=
  ME_of (S_X2_reachBeyond_0 m σ (l_reach c8 hN m h1 h0 c 0 (by omega) rfl))
theorem l_allSo {r : Nat → Nat} {n : Nat} (h5 : h ≤ 5) (c8 : c ≤ 8) (n20 : n ≤ 20) (hr : ∀ v, v < n → r v < h) (hh : ∀ r, r < c → inR (rh r) 0 ((h : Int) - 1)) (σ0 : St) (hN : AgRC σ0 c rt rh rf) (e5 : σ0 0 5 = nI n) (e22 : ∀ v, v < n → σ0 22 v = nI (r v)) {b : Bool} (h1 : b = true → ∀ σ', FrH σ0 σ' → F 1 σ') (h0 : b = false → ∀ σ', FrH σ0 σ' → F 0 σ') :
    ∀ (m k : Nat) (x : HS) (σ : St), k + m = n → AgC σ h la x → WfH h la x → FrH σ0 σ → soF la r (fun w t => rdF rt rh rf w t c 0) m k x = b → VM g (d + 2) M_X4_allSo (qI F) 33 [(0, vR 0), (1, vI (nI k))] [] σ
  | 0, k, x, σ, hk, hA, hW, f, e => S_X4_allSo_33 (nI k) σ (brt (by rw [f 0 (by decide) (by decide) (by decide) (by decide), e5]; exact nI_le (by omega) (by omega)) (h1 (by rw [soF] at e; exact e.symm) σ f))
  | m + 1, k, x, σ, hk, hA, hW, f, e => by
    refine S_X4_allSo_33 (nI k) σ (brn (by rw [f 0 (by decide) (by decide) (by decide) (by decide), e5]; exact nI_ge (by omega) (by omega)) ?_)
    rw [cl_n k (by omega), f 22 (by decide) (by decide) (by decide) (by decide), e22 k (by omega), nI_1]
    refine ⟨vp_in_nI (by omega) (by decide), m_receives h5 hA hW (hr k (by omega)) (fun x' ex σ' hA' f' => b1p ?_) (fun ex => b0p ?_)⟩
    · rw [soF, ex] at e
      have e : (if rdF rt rh rf x'.1 (nI (k + 1)) c 0 = true then soF la r (fun w t => rdF rt rh rf w t c 0) m (k + 1) x' else false) = b := e
      refine m_areSoC h5 c8 hA' (hN.fr (fun a ha => (f.tr f') a (by omega) (by omega) (by omega) (by omega))) hh (nI (k + 1)) (fun q => b1n ?_) (fun q => b0n ?_)
      · rw [if_pos q] at e
        exact l_allSo h5 c8 n20 hr hh σ0 hN e5 e22 h1 h0 m (k + 1) x' σ' (by omega) hA' (hStep_wf hW (hr k (by omega)) ex) (f.tr f') e
      · rw [if_neg (by rw [q]; decide)] at e
        exact h0 e.symm σ' (f.tr f')
    · rw [soF, ex] at e
      exact h0 e.symm σ f
theorem m_bitIf {r : Nat → Nat} {n : Nat} {kb : Int32} (h5 : h ≤ 5) (c8 : c ≤ 8) (n20 : n ≤ 20) (hr : ∀ v, v < n → r v < h) (hh : ∀ r, r < c → inR (rh r) 0 ((h : Int) - 1)) (hN : AgRC σ c rt rh rf) (e5 : σ 0 5 = nI n) (e22 : ∀ v, v < n → σ 22 v = nI (r v)) (hA : AgC σ h la hs0) (hW : WfH h la hs0)
    (K : ∀ σ', FrH σ σ' → F (if allV la r n rt rh rf c = true then (1 : Int32) <<< (kb &&& 31) else 0) σ') : ME g (d + 4) M_X4_bitIfAllSo [vR 0, vI kb] σ (qI F) := by
  refine ME_of (S_X4_bitIfAllSo_0 kb σ (ME_of (S_X4_allSo_0 σ ?_)))
  unfold allV at K
  have k0 : ∀ σ', FrH σ σ' → allV la r n rt rh rf c = false → ((((0 : Int32) = 0 → F 0 σ') ∧ (¬ (0 : Int32) = 0 → F (1 <<< (kb &&& 31)) σ'))) := fun σ' f e => by
    have := K σ' f
    unfold allV at e
    rw [if_neg (by rw [e]; decide)] at this
    exact b0p this
  rw [e5]
  refine m_reach c8 hN (nI n) (fun q => b1n (k0 σ (FrH.rf σ) (by unfold allV; rw [q]; rfl))) (fun q => b0n (m_areSoC h5 c8 hA hN hh 0 (fun q2 => b1n ?_) (fun q2 => b0n (k0 σ (FrH.rf σ) (by unfold allV; rw [q, q2]; rfl)))))
  refine l_allSo h5 c8 n20 hr hh σ hN e5 e22 (b := soF la r (fun w t => rdF rt rh rf w t c 0) n 0 hs0) (fun e σ' f => b1p ?_) (fun e σ' f => k0 σ' f (by unfold allV; rw [q, q2, e]; rfl)) n 0 hs0 σ (by omega) hA hW (FrH.rf σ) rfl
  have := K σ' f
  rw [q, q2, e] at this
  exact this
theorem l_areSo43 {r : Nat → Nat} {n : Nat} (h5 : h ≤ 5) (c8 : c ≤ 8) (n20 : n ≤ 20) (hr : ∀ v, v < n → r v < h) (hh : ∀ r, r < c → inR (rh r) 0 ((h : Int) - 1)) (σ0 : St) (hN : AgRM σ0 c rt rh rf) (e5 : σ0 23 15 = nI n) (e22 : ∀ v, v < n → σ0 33 v = nI (r v)) {b : Bool} (h1 : b = true → ∀ σ', FrG σ0 σ' → F 1 σ') (h0 : b = false → ∀ σ', FrG σ0 σ' → F 0 σ') :
    ∀ (m k : Nat) (x : HS) (σ : St), k + m = n → AgM σ h la x → WfH h la x → FrG σ0 σ → soF la r (fun w t => rdF rt rh rf w t c 0) m k x = b → VM g (d + 2) M_X5_areSo (qI F) 43 [(0, vR 23), (1, vI 1), (2, vI (nI k))] [] σ := by
  have fl : ∀ (k : Nat) (σ : St), FrG σ0 σ → b = false → VM g (d + 2) M_X5_areSo (qI F) 43 [(0, vR 23), (1, vI 0), (2, vI (nI k))] [] σ := fun k σ f e => S_X5_areSo_43 0 (nI k) σ ⟨fun _ => ⟨h0 e σ f, Or.inl rfl⟩, fun _ => brt rfl ⟨h0 e σ f, Or.inl rfl⟩⟩
  intro m
  induction m with
  | zero =>
    intro k x σ hk hA hW f e
    exact S_X5_areSo_43 1 (nI k) σ (brt (by rw [f.2 15 (by decide), e5]; exact nI_le (by omega) (by omega)) ⟨h1 (by rw [soF] at e; exact e.symm) σ f, Or.inr rfl⟩)
  | succ m ih =>
    intro k x σ hk hA hW f e
    refine S_X5_areSo_43 1 (nI k) σ (brn (by rw [f.2 15 (by decide), e5]; exact nI_ge (by omega) (by omega)) (brn (by decide) ?_))
    rw [cl_n k (by omega), f.1 33 (by decide) (by decide) (by decide), e22 k (by omega), nI_1]
    refine ⟨vp_in_nI (by omega) (by decide), m_visit h5 hA hW (hr k (by omega)) (fun x' ex σ' hA' f' => b1p ?_) (fun ex => b0p ?_)⟩
    · rw [soF, ex] at e
      have e : (if rdF rt rh rf x'.1 (nI (k + 1)) c 0 = true then soF la r (fun w t => rdF rt rh rf w t c 0) m (k + 1) x' else false) = b := e
      refine m_behind h5 c8 hA' (hN.fr (fun a ha => (f.tr f').1 a (by omega) (by omega) (by omega)) ((f.tr f').2 18 (by decide))) hh (nI (k + 1)) (fun q => b1p ?_) (fun q => b0p ?_)
      · rw [if_pos q] at e
        exact ih (k + 1) x' σ' (by omega) hA' (hStep_wf hW (hr k (by omega)) ex) (f.tr f') e
      · rw [if_neg (by rw [q]; decide)] at e
        exact fl (k + 1) σ' (f.tr f') e.symm
    · rw [soF, ex] at e
      exact fl (k + 1) σ f e.symm
theorem l_areSo2 {m : Int32} (c8 : c ≤ 8) (hN : AgRM σ c rt rh rf) (em : σ 23 15 = m) (h1 : rbF rt m c 0 = true → F 0 σ) (h0 : rbF rt m c 0 = false → (ME g d M_X5_begin [vR 23] σ (qV (fun σ3 => (ME g d M_X5_areSoBehind [vR 23, vI 0] σ3 (qI (fun r5 σ6 => VM g (d + 1) M_X5_areSo (qI F) 43 [(0, vR 23), (1, vI r5), (2, vI 0)] [] σ6))))))) : ∀ (n k : Nat), k + n = c → rbF rt m n k = rbF rt m c 0 → VM g (d + 1) M_X5_areSo (qI F) 2 [(0, vR 23), (1, vI (nI k))] [] σ
  | 0, k, hk, e => S_X5_areSo_2 (nI k) σ (brt (by rw [hN.1]; exact nI_le (by omega) (by omega)) (h0 e.symm))
  | n + 1, k, hk, e => by
    obtain ⟨a1, a2, a3⟩ := hN.2 k (by omega)
    refine S_X5_areSo_2 (nI k) σ (brn (by rw [hN.1]; exact nI_ge (by omega) (by omega)) ?_)
    rw [cl_n k (by omega), nI_1, a1, em]
    rw [rbF] at e
    refine ⟨vp_in_nI (by omega) (by decide), fun q => ?_, fun q => ?_⟩
    · rw [if_pos q] at e
      exact l_areSo2 c8 hN em h1 h0 n (k + 1) (by omega) e
    · rw [if_neg q] at e
      exact h1 e.symm
theorem m_areSo5 {r : Nat → Nat} {n : Nat} (h5 : h ≤ 5) (c8 : c ≤ 8) (n20 : n ≤ 20) (hr : ∀ v, v < n → r v < h) (hh : ∀ r, r < c → inR (rh r) 0 ((h : Int) - 1)) (hN : AgRM σ c rt rh rf) (e5 : σ 23 15 = nI n) (e22 : ∀ v, v < n → σ 33 v = nI (r v)) (eh : σ 23 5 = nI h) (hla : ∀ i, i < h → lsV2 (σ 27 i) (σ 28 i) = la i) (hl : ∀ i, i < h → 0 ≤ (la i).toInt ∧ (la i).toInt ≤ 20)
    (h1 : allV la r n rt rh rf c = true → ∀ σ', FrG σ σ' → F 1 σ') (h0 : allV la r n rt rh rf c = false → ∀ σ', FrG σ σ' → F 0 σ') : ME g (d + 2) M_X5_areSo [vR 23] σ (qI F) := by
  have hW : WfH h la hs0 := hs0_wf h5 hl
  refine ME_of (S_X5_areSo_0 σ (l_areSo2 c8 hN e5 (fun q => h0 (by unfold allV; rw [q]; rfl) σ (FrG.rf σ)) (fun q => m_begin h5 eh (fun σ1 hA f1 => ?_)) c 0 (by omega) rfl))
  have hA1 := AgM_la hA hla
  have hN1 : AgRM σ1 c rt rh rf := hN.fr (fun a ha => f1.1 a (by omega) (by omega) (by omega)) (f1.2 18 (by decide))
  refine m_behind h5 c8 hA1 hN1 hh 0 (fun q2 => ?_) (fun q2 => ?_)
  · exact l_areSo43 h5 c8 n20 hr hh σ1 hN1 (by rw [f1.2 15 (by decide), e5]) (fun v hv => by rw [f1.1 33 (by decide) (by decide) (by decide), e22 v hv]) (b := soF la r (fun w t => rdF rt rh rf w t c 0) n 0 hs0) (fun e σ' f => h1 (by unfold allV; rw [q, q2, e]; rfl) σ' (f1.tr f)) (fun e σ' f => h0 (by unfold allV; rw [q, q2, e]; rfl) σ' (f1.tr f)) n 0 hs0 σ1 (by omega) hA1 hW (FrG.rf σ1) rfl
  · exact S_X5_areSo_43 0 (nI 0) σ1 ⟨fun _ => ⟨h0 (by unfold allV; rw [q, q2]; rfl) σ1 f1, Or.inl rfl⟩, fun _ => brt rfl ⟨h0 (by unfold allV; rw [q, q2]; rfl) σ1 f1, Or.inl rfl⟩⟩
end RDS
