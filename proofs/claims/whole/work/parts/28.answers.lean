/-! answers about the hall -/
def ownF (w : Nat → Int32) : Nat → Nat → Int32 → Int32
  | 0, _, a => a
  | n + 1, k, a => ownF w n (k + 1) (if w k = nI k then a ||| ((1 : Int32) <<< (nI k &&& 31)) else a)
def mostF (t : Nat → Int32) : Nat → Nat → Int32 → Int32
  | 0, _, b => b
  | n + 1, k, b => mostF t n (k + 1) (if b = -9 then (if t k ≤ 0 then b else nI k) else if t k ≤ t b.toNatClampNeg then b else nI k)
def foolF (w : Nat → Int32) (p kn : Int32) : Nat → Nat → Int32 → Int32
  | 0, _, a => a
  | n + 1, k, a => foolF w p kn n (k + 1) (if nI k = p ∨ nI k = kn ∨ w k = -9 ∨ w k = nI k then a else a + 1)
def faF (w : Nat → Int32) : Nat → Nat → Int32
  | 0, _ => -9
  | n + 1, k => if w k = nI k then faF w n (k + 1) else nI k
theorem or0 (a : Int32) : a ||| 0 = a := by
  apply Int32.toBitVec_inj.mp
  simp
section ANS
variable {g : GG} {d h : Nat} {σ : St} {la : Nat → Int32} {x : HS} {F : Int32 → St → Prop}
theorem l_own (h5 : h ≤ 5) (hA : AgC σ h la x) : ∀ (n k : Nat) (a : Int32), k + n = h → F (ownF x.1 n k a) σ → VM g d M_X1_ownWearers (qI F) 4 [(0, vR 14), (1, vI a), (2, vI (nI k))] [] σ
  | 0, k, a, hk, hF => S_X1_ownWearers_4 a (nI k) σ (brt (by rw [hA.1]; exact nI_le (by omega) (by omega)) hF)
  | n + 1, k, a, hk, hF => by
    refine S_X1_ownWearers_4 a (nI k) σ (brn (by rw [hA.1]; exact nI_ge (by omega) (by omega)) ?_)
    rw [cl_n k (by omega), nI_1, (hA.2.2 k (by omega)).1]
    rw [ownF] at hF
    refine ⟨vp_in_nI (by omega) (by decide), fun c => ?_, fun c => ?_⟩
    · rw [if_neg c] at hF; exact l_own h5 hA n (k + 1) a (by omega) hF
    · rw [if_pos c] at hF; exact l_own h5 hA n (k + 1) _ (by omega) hF
theorem l_atHome (h5 : h ≤ 5) (hA : AgM σ h la x) : ∀ (n k : Nat) (a : Int32), k + n = h → F (ownF x.1 n k a) σ → VM g d M_X5_atHome (qI F) 4 [(0, vR 23), (1, vI a), (2, vI (nI k))] [] σ
  | 0, k, a, hk, hF => S_X5_atHome_4 a (nI k) σ (brt (by rw [hA.1]; exact nI_le (by omega) (by omega)) hF)
  | n + 1, k, a, hk, hF => by
    refine S_X5_atHome_4 a (nI k) σ (brn (by rw [hA.1]; exact nI_ge (by omega) (by omega)) ?_)
    rw [cl_n k (by omega), nI_1, (hA.2.2 k (by omega)).1, or0]
    rw [ownF] at hF
    refine ⟨vp_in_nI (by omega) (by decide), fun c => ?_, fun c => ?_⟩
    · rw [if_neg c] at hF; exact l_atHome h5 hA n (k + 1) a (by omega) hF
    · rw [if_pos c] at hF; exact l_atHome h5 hA n (k + 1) _ (by omega) hF
theorem l_most (h5 : h ≤ 5) (hA : AgC σ h la x) : ∀ (n k : Nat) (b : Int32), k + n = h → (b = -9 ∨ inR b 0 ((h : Int) - 1)) → F (mostF x.2.1 n k b) σ → VM g d M_X1_mostTaken (qI F) 5 [(0, vR 14), (1, vI b), (2, vI (nI k))] [] σ
  | 0, k, b, hk, hb, hF => S_X1_mostTaken_5 b (nI k) σ (brt (by rw [hA.1]; exact nI_le (by omega) (by omega)) hF)
  | n + 1, k, b, hk, hb, hF => by
    have vk := nI_v (n := k) (by omega)
    have kin : inR (nI k) 0 ((h : Int) - 1) := by omega
    refine S_X1_mostTaken_5 b (nI k) σ (brn (by rw [hA.1]; exact nI_ge (by omega) (by omega)) ?_)
    rw [cl_n k (by omega), nI_1, (hA.2.2 k (by omega)).2.1]
    rw [mostF] at hF
    refine ⟨vp_in_nI (by omega) (by decide), fun c => ?_, fun c => ?_⟩
    · have hb2 := hb.resolve_left c
      rw [(hA.2.2 _ (cl_lt hb2)).2.1]
      rw [if_neg c] at hF
      refine ⟨inR_in hb2 (by omega), fun e => ?_, fun e => ?_⟩
      · rw [if_pos e] at hF; exact l_most h5 hA n (k + 1) b (by omega) hb hF
      · rw [if_neg e] at hF; exact l_most h5 hA n (k + 1) _ (by omega) (Or.inr kin) hF
    · rw [if_pos c] at hF
      refine ⟨fun e => ?_, fun e => ?_⟩
      · rw [if_pos e] at hF; exact l_most h5 hA n (k + 1) b (by omega) hb hF
      · rw [if_neg e] at hF; exact l_most h5 hA n (k + 1) _ (by omega) (Or.inr kin) hF
theorem l_worn (h5 : h ≤ 5) (hA : AgM σ h la x) (hW : WfH h la x) : ∀ (n k : Nat) (b : Int32), k + n = h → (b = -9 ∨ inR b 0 ((h : Int) - 1)) → F (mostF x.2.1 n k b) σ → VM g d M_X5_worn (qI F) 5 [(0, vR 23), (1, vI b), (2, vI (nI k))] [] σ
  | 0, k, b, hk, hb, hF => S_X5_worn_5 b (nI k) σ (brt (by rw [hA.1]; exact nI_le (by omega) (by omega)) hF)
  | n + 1, k, b, hk, hb, hF => by
    have vk := nI_v (n := k) (by omega)
    have kin : inR (nI k) 0 ((h : Int) - 1) := by omega
    refine S_X5_worn_5 b (nI k) σ (brn (by rw [hA.1]; exact nI_ge (by omega) (by omega)) ?_)
    rw [cl_n k (by omega), nI_1, (hA.2.2 k (by omega)).2.1]
    rw [mostF] at hF
    refine ⟨vp_in_nI (by omega) (by decide), fun e => ?_, fun e => ⟨fun c => ?_, fun c => ?_⟩⟩
    · by_cases c : b = -9
      · rw [if_pos c, if_pos e] at hF; exact l_worn h5 hA hW n (k + 1) b (by omega) hb hF
      · have hb2 := hb.resolve_left c
        have w := hW.2.2 _ (cl_lt hb2)
        rw [if_neg c, if_pos (by rw [fa_le] at e ⊢; have z0 : (0 : Int32).toInt = 0 := rfl; omega)] at hF
        exact l_worn h5 hA hW n (k + 1) b (by omega) hb hF
    · rw [if_pos c, if_neg e] at hF; exact l_worn h5 hA hW n (k + 1) _ (by omega) (Or.inr kin) hF
    · have hb2 := hb.resolve_left c
      rw [(hA.2.2 _ (cl_lt hb2)).2.1]
      rw [if_neg c] at hF
      refine ⟨inR_in hb2 (by omega), fun e => ?_, fun e => ?_⟩
      · rw [if_pos e] at hF; exact l_worn h5 hA hW n (k + 1) b (by omega) hb hF
      · rw [if_neg e] at hF; exact l_worn h5 hA hW n (k + 1) _ (by omega) (Or.inr kin) hF
theorem l_fooling {p kn : Int32} (h5 : h ≤ 5) (hA : AgC σ h la x) : ∀ (n k : Nat) (a : Int32), k + n = h → F (foolF x.1 p kn n k a) σ → VM g d M_X1_fooling (qI F) 5 [(0, vR 14), (1, vI p), (2, vI kn), (3, vI a), (4, vI (nI k))] [] σ
  | 0, k, a, hk, hF => S_X1_fooling_5 p kn a (nI k) σ (brt (by rw [hA.1]; exact nI_le (by omega) (by omega)) hF)
  | n + 1, k, a, hk, hF => by
    refine S_X1_fooling_5 p kn a (nI k) σ (brn (by rw [hA.1]; exact nI_ge (by omega) (by omega)) ?_)
    rw [cl_n k (by omega), nI_1, (hA.2.2 k (by omega)).1]
    rw [foolF] at hF
    have keep : (nI k = p ∨ nI k = kn ∨ x.1 k = -9 ∨ x.1 k = nI k) → VM g d M_X1_fooling (qI F) 5 [(0, vR 14), (1, vI p), (2, vI kn), (3, vI a), (4, vI (nI (k + 1)))] [] σ := fun q => by
      rw [if_pos q] at hF
      exact l_fooling h5 hA n (k + 1) a (by omega) hF
    refine ⟨fun c => keep (Or.inl c), fun c => ⟨fun c2 => keep (Or.inr (Or.inl c2)), fun c2 => ⟨vp_in_nI (by omega) (by decide), fun c3 => keep (Or.inr (Or.inr (Or.inl c3))), fun c3 => ⟨fun c4 => keep (Or.inr (Or.inr (Or.inr c4))), fun c4 => ?_⟩⟩⟩⟩
    rw [if_neg (fun q => q.elim c (fun q => q.elim c2 (fun q => q.elim c3 c4)))] at hF
    exact l_fooling h5 hA n (k + 1) _ (by omega) hF
theorem l_fooled {p : Nat} (h5 : h ≤ 5) (hp : p < h) (hA : AgM σ h la x) : ∀ (n k : Nat) (a : Int32), k + n = h → F (foolF x.1 (nI p) (σ 29 p) n k a) σ → VM g d M_X5_fooled (qI F) 4 [(0, vR 23), (1, vI (nI p)), (2, vI a), (3, vI (nI k))] [] σ
  | 0, k, a, hk, hF => S_X5_fooled_4 (nI p) a (nI k) σ (brt (by rw [hA.1]; exact nI_le (by omega) (by omega)) hF)
  | n + 1, k, a, hk, hF => by
    refine S_X5_fooled_4 (nI p) a (nI k) σ (brn (by rw [hA.1]; exact nI_ge (by omega) (by omega)) ?_)
    rw [cl_n k (by omega), cl_n p (by omega), nI_1, (hA.2.2 k (by omega)).1, show a + 0 = a from Int32.add_zero a]
    rw [foolF] at hF
    have keep : (nI k = nI p ∨ nI k = σ 29 p ∨ x.1 k = -9 ∨ x.1 k = nI k) → VM g d M_X5_fooled (qI F) 4 [(0, vR 23), (1, vI (nI p)), (2, vI a), (3, vI (nI (k + 1)))] [] σ := fun q => by
      rw [if_pos q] at hF
      exact l_fooled h5 hp hA n (k + 1) a (by omega) hF
    refine ⟨fun c => keep (Or.inl c), fun c => ⟨vp_in_nI (by omega) (by decide), fun c3 => keep (Or.inr (Or.inr (Or.inl c3))), fun c3 => ⟨fun c4 => keep (Or.inr (Or.inr (Or.inr c4))), fun c4 => ⟨vp_in_nI (by omega) (by decide), fun c2 => keep (Or.inr (Or.inl c2.symm)), fun c2 => ?_⟩⟩⟩⟩
    rw [if_neg (fun q => q.elim c (fun q => q.elim (fun z => c2 z.symm) (fun q => q.elim c3 c4)))] at hF
    exact l_fooled h5 hp hA n (k + 1) _ (by omega) hF
theorem l_firstAstray (h5 : h ≤ 5) (hA : AgC σ h la x) : ∀ (n k : Nat), k + n = h → F (faF x.1 n k) σ → VM g d M_X1_firstAstray (qI F) 2 [(0, vR 14), (1, vI (nI k))] [] σ
  | 0, k, hk, hF => S_X1_firstAstray_2 (nI k) σ (brt (by rw [hA.1]; exact nI_le (by omega) (by omega)) hF)
  | n + 1, k, hk, hF => by
    refine S_X1_firstAstray_2 (nI k) σ (brn (by rw [hA.1]; exact nI_ge (by omega) (by omega)) ?_)
    rw [cl_n k (by omega), nI_1, (hA.2.2 k (by omega)).1]
    rw [faF] at hF
    refine ⟨vp_in_nI (by omega) (by decide), fun c => ?_, fun c => ?_⟩
    · rw [if_pos c] at hF; exact l_firstAstray h5 hA n (k + 1) (by omega) hF
    · rw [if_neg c] at hF; exact hF
theorem m_firstAstray (h5 : h ≤ 5) (hA : AgC σ h la x) (hF : F (faF x.1 h 0) σ) : ME g d M_X1_firstAstray [vR 14] σ (qI F) := ME_of (S_X1_firstAstray_0 σ (l_firstAstray h5 hA h 0 (by omega) hF))
theorem l_firstAway (h5 : h ≤ 5) (hA : AgM σ h la x) : ∀ (n k : Nat), k + n = h → F (faF x.1 n k) σ → VM g d M_X5_firstAway (qI F) 2 [(0, vR 23), (1, vI (nI k))] [] σ
  | 0, k, hk, hF => S_X5_firstAway_2 (nI k) σ (brt (by rw [hA.1]; exact nI_le (by omega) (by omega)) hF)
  | n + 1, k, hk, hF => by
    refine S_X5_firstAway_2 (nI k) σ (brn (by rw [hA.1]; exact nI_ge (by omega) (by omega)) ?_)
    rw [cl_n k (by omega), nI_1, (hA.2.2 k (by omega)).1]
    rw [faF] at hF
    refine ⟨vp_in_nI (by omega) (by decide), fun c => ?_, fun c => ?_⟩
    · rw [if_pos c] at hF; exact l_firstAway h5 hA n (k + 1) (by omega) hF
    · rw [if_neg c] at hF; exact hF
theorem m_firstAway (h5 : h ≤ 5) (hA : AgM σ h la x) (hF : F (faF x.1 h 0) σ) : ME g d M_X5_firstAway [vR 23] σ (qI F) := ME_of (S_X5_firstAway_0 σ (l_firstAway h5 hA h 0 (by omega) hF))
/-! all home -/
theorem faF_sp (w : Nat → Int32) : ∀ (n k : Nat), k + n < 100 → (faF w n k = -9 ∧ ∀ i, k ≤ i → i < k + n → w i = nI i) ∨ ∃ p, k ≤ p ∧ p < k + n ∧ faF w n k = nI p ∧ ¬ w p = nI p
  | 0, k, hk => Or.inl ⟨rfl, fun i h1 h2 => by omega⟩
  | n + 1, k, hk => by
    rw [faF]
    by_cases c : w k = nI k
    · rw [if_pos c]
      rcases faF_sp w n (k + 1) (by omega) with ⟨h1, h2⟩ | ⟨p, h1, h2, h3, h4⟩
      · refine Or.inl ⟨h1, fun i i1 i2 => ?_⟩
        rcases (show i = k ∨ k + 1 ≤ i by omega) with rfl | z
        · exact c
        · exact h2 i z (by omega)
      · exact Or.inr ⟨p, by omega, by omega, h3, h4⟩
    · rw [if_neg c]
      exact Or.inr ⟨k, by omega, by omega, rfl, c⟩
/-- each MASK is at one place alone -/
def DsH (h : Nat) (w : Nat → Int32) (gl : Int32) : Prop := (∀ i j, i < h → j < h → w i = w j → i = j) ∧ (∀ i, i < h → ¬ w i = gl) ∧ (gl = -9 ∨ inR gl 0 ((h : Int) - 1)) ∧ ∀ i, i < h → w i = -9 ∨ inR (w i) 0 ((h : Int) - 1)
theorem DsH_sw {w : Nat → Int32} {gl : Int32} {p : Nat} (hp : p < h) (hD : DsH h w gl) : DsH h (upd w p gl) (w p) := by
  obtain ⟨d1, d2, d3, d4⟩ := hD
  refine ⟨fun i j hi hj e => ?_, fun i hi e => ?_, d4 p hp, fun i hi => ?_⟩
  · simp only [upd] at e
    by_cases ip : i = p
    · by_cases jp : j = p
      · omega
      · rw [if_pos ip, if_neg jp] at e
        exact absurd e.symm (d2 j hj)
    · by_cases jp : j = p
      · rw [if_neg ip, if_pos jp] at e
        exact absurd e (d2 i hi)
      · rw [if_neg ip, if_neg jp] at e
        exact d1 i j hi hj e
  · simp only [upd] at e
    by_cases ip : i = p
    · rw [if_pos ip] at e
      exact d2 p hp e.symm
    · rw [if_neg ip] at e
      exact ip (d1 i p hi hp e)
  · simp only [upd]
    by_cases ip : i = p
    · rw [if_pos ip]; exact d3
    · rw [if_neg ip]; exact d4 i hi
/-- how many are astray -/
def cA (w : Nat → Int32) : Nat → Nat
  | 0 => 0
  | n + 1 => cA w n + if w n = nI n then 0 else 1
theorem cA_le (w : Nat → Int32) : ∀ n, cA w n ≤ n
  | 0 => Nat.le_refl 0
  | n + 1 => by
    have := cA_le w n
    rw [cA]
    split <;> omega
theorem cA_out (w : Nat → Int32) {p : Nat} (v : Int32) : ∀ n, n ≤ p → cA (upd w p v) n = cA w n
  | 0, _ => rfl
  | n + 1, hn => by
    have e : upd w p v n = w n := by simp only [upd]; rw [if_neg (by omega)]
    rw [cA, cA, cA_out w v n (by omega), e]
theorem cA_upd (w : Nat → Int32) {p : Nat} (v : Int32) : ∀ n, p < n → cA (upd w p v) n + (if w p = nI p then 0 else 1) = cA w n + (if v = nI p then 0 else 1)
  | 0, hp => by omega
  | n + 1, hp => by
    rw [cA, cA]
    by_cases e : p = n
    · subst e
      rw [cA_out w v p (Nat.le_refl p)]
      have : upd w p v p = v := by simp [upd]
      rw [this]
      omega
    · have ih := cA_upd w (p := p) v n (by omega)
      have : upd w p v n = w n := by simp only [upd]; rw [if_neg (by omega)]
      rw [this]
      omega
theorem cA_pos (w : Nat → Int32) {p : Nat} (hw : ¬ w p = nI p) : ∀ n, p < n → 1 ≤ cA w n
  | 0, hp => by omega
  | n + 1, hp => by
    rw [cA]
    by_cases e : p = n
    · subst e
      rw [if_neg hw]
      omega
    · have := cA_pos w hw n (by omega)
      omega
def muH (h : Nat) (w : Nat → Int32) (gl : Int32) : Nat := 2 * cA w h - (if gl = -9 then 0 else 1)
/-- the visits that bring all home: at most m are left, c were made -/
def hmF (h : Nat) : Nat → (Nat → Int32) → Int32 → Nat → Nat
  | 0, _, _, c => c
  | m + 1, w, gl, c => if gl = -9 then (if faF w h 0 = -9 then c else hmF h m (upd w (faF w h 0).toNatClampNeg gl) (w (faF w h 0).toNatClampNeg) (c + 1)) else hmF h m (upd w gl.toNatClampNeg gl) (w gl.toNatClampNeg) (c + 1)
theorem l_visitsHome (h5 : h ≤ 5) (σ0 : St) {F : Int32 → St → Prop} {R : Nat} (hF : ∀ σ', FrH σ0 σ' → F (nI R) σ') :
    ∀ (m c : Nat) (x : HS) (σ : St), c + m = 10 → AgC σ h la x → DsH h x.1 x.2.2 → FrH σ0 σ → hmF h m x.1 x.2.2 c = R → VM g (d + 1) M_X1_visitsHome (qI F) 2 [(0, vR 14), (1, vI (nI c))] [] σ
  | 0, c, x, σ, hc, hA, hD, f, e => by
    rw [hmF] at e
    subst e
    have : c = 10 := by omega
    subst this
    exact S_X1_visitsHome_2 (nI 10) σ (brt (by decide) (hF σ f))
  | m + 1, c, x, σ, hc, hA, hD, f, e => by
    rw [hmF] at e
    refine S_X1_visitsHome_2 (nI c) σ (brn (nI_ge (a := c) (b := 10) (by omega) (by decide)) ?_)
    rw [hA.2.1, nI_1]
    refine ⟨fun a => ?_, fun a => ?_⟩
    · rw [if_pos a] at e
      refine m_firstAstray h5 hA ?_
      rcases faF_sp x.1 h 0 (by omega) with ⟨q1, q2⟩ | ⟨p, q1, q2, q3, q4⟩
      · rw [q1, if_pos rfl] at e
        subst e
        rw [q1]
        exact brt' rfl (hF σ f)
      · have pn : ¬ nI p = -9 := by rw [fa_eq, tm9, nI_v (by omega)]; omega
        rw [q3, if_neg pn, cl_n p (by omega)] at e
        rw [q3]
        refine brn' pn (m_changeP (by omega) ?_)
        refine l_visitsHome h5 σ0 hF m (c + 1) (upd x.1 p x.2.2, x.2.1, x.1 p) _ (by omega) (AgC_ch (by omega) hA rfl rfl) (DsH_sw (by omega) hD) (f.tr (fun b b1 b2 _ _ => by rw [sU_o b1, sU_o b2])) e
    · rw [if_neg a] at e
      have gi := hD.2.2.1.resolve_left a
      obtain ⟨p, hp, hp2, hp3⟩ := toN gi
      rw [hp, cl_n p hp3] at e
      have h2 := hA.2.1
      refine brn' a ?_
      rw [hp]
      refine m_changeP (by omega) ?_
      refine l_visitsHome h5 σ0 hF m (c + 1) (upd x.1 p x.2.2, x.2.1, x.1 p) _ (by omega) (AgC_ch (by omega) hA rfl rfl) (DsH_sw (by omega) hD) (f.tr (fun b b1 b2 _ _ => by rw [sU_o b1, sU_o b2])) ?_
      rw [hp]
      exact e
theorem l_home (h5 : h ≤ 5) (σ0 : St) {F : Int32 → St → Prop} {R : Nat} (hF : ∀ σ', FrG σ0 σ' → F (nI R) σ') :
    ∀ (m c : Nat) (x : HS) (σ : St), c + m ≤ 1000 → muH h x.1 x.2.2 ≤ m → AgM σ h la x → DsH h x.1 x.2.2 → FrG σ0 σ → hmF h m x.1 x.2.2 c = R → VM g (d + 1) M_X5_home (qI F) 2 [(0, vR 23), (1, vI (nI c))] [] σ := by
  have fg : ∀ (τ : St) (p : Nat) (u v : Int32), FrG τ (sU (sU τ 31 p u) 23 14 v) := fun τ p u v => ⟨fun b b1 _ b3 => by rw [sU_o b3, sU_o b1], fun i hi => by rw [sU_s]; simp [upd, hi, sU]⟩
  intro m
  induction m with
  | zero =>
    intro c x σ hc hm hA hD f e
    rw [hmF] at e
    subst e
    have all : faF x.1 h 0 = -9 := by
      rcases faF_sp x.1 h 0 (by omega) with ⟨q1, q2⟩ | ⟨p, q1, q2, q3, q4⟩
      · exact q1
      · have := cA_pos x.1 q4 h (by omega)
        unfold muH at hm
        split at hm <;> omega
    refine S_X5_home_2 (nI c) σ (m_firstAway h5 hA ?_)
    rw [all]
    exact brt rfl (hF σ f)
  | succ m ih =>
    intro c x σ hc hm hA hD f e
    rw [hmF] at e
    refine S_X5_home_2 (nI c) σ (m_firstAway h5 hA ?_)
    rw [nI_1]
    rcases faF_sp x.1 h 0 (by omega) with ⟨q1, q2⟩ | ⟨p, q1, q2, q3, q4⟩
    · have g9 : x.2.2 = -9 := by
        rcases hD.2.2.1 with z | z
        · exact z
        · obtain ⟨q, hq, hq2, hq3⟩ := toN z
          exact absurd ((q2 q (by omega) (by omega)).trans hq.symm) (hD.2.1 q (by omega))
      rw [if_pos g9, q1, if_pos rfl] at e
      subst e
      rw [q1]
      exact brt rfl (hF σ f)
    · have pn : ¬ nI p = -9 := by rw [fa_eq, tm9, nI_v (by omega)]; omega
      rw [q3]
      refine brn pn ⟨fun a => ?_, fun a => ?_⟩
      · rw [hA.2.1] at a
        rw [if_neg a] at e
        obtain ⟨q, hq, hq2, hq3⟩ := toN (hD.2.2.1.resolve_left a)
        rw [hq, cl_n q hq3] at e
        rw [hA.2.1, hq]
        refine m_change (by omega) (ih (c + 1) (upd x.1 q x.2.2, x.2.1, x.1 q) _ (by omega) ?_ (AgM_ch (by omega) hA rfl rfl) (DsH_sw (by omega) hD) (f.tr (fg _ _ _ _)) (by rw [hq]; exact e))
        have wq : ¬ x.1 q = nI q := by rw [← hq]; exact hD.2.1 q (by omega)
        have cu := cA_upd x.1 x.2.2 h (show q < h by omega)
        rw [if_neg wq, if_pos hq] at cu
        show muH h (upd x.1 q x.2.2) (x.1 q) ≤ m
        unfold muH at hm ⊢
        rw [if_neg a] at hm
        split <;> omega
      · rw [hA.2.1] at a
        rw [if_pos a, q3, if_neg pn, cl_n p (by omega)] at e
        refine m_firstAway h5 hA ?_
        rw [q3]
        refine m_change (by omega) (ih (c + 1) (upd x.1 p x.2.2, x.2.1, x.1 p) _ (by omega) ?_ (AgM_ch (by omega) hA rfl rfl) (DsH_sw (by omega) hD) (f.tr (fg _ _ _ _)) e)
        have cu := cA_upd x.1 x.2.2 h (show p < h by omega)
        rw [if_neg q4, if_neg (by rw [a]; exact fun z => pn z.symm)] at cu
        have cp := cA_pos x.1 q4 h (by omega)
        have wp : ¬ x.1 p = -9 := by rw [← a]; exact hD.2.1 p (by omega)
        show muH h (upd x.1 p x.2.2) (x.1 p) ≤ m
        unfold muH at hm ⊢
        rw [if_pos a] at hm
        rw [if_neg wp]
        omega
end ANS
