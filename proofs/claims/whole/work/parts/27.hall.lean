/-! the hall: who wears what, how often each MASK was taken, what is in the glass -/
abbrev HS : Type := (Nat → Int32) × (Nat → Int32) × Int32
def hs0 : HS := (fun i => nI i, fun _ => 0, -9)
def hStep (la : Nat → Int32) (x : HS) (p : Nat) : Option HS :=
  if x.2.2 = -9 then some (upd x.1 p (-9), x.2.1, x.1 p)
  else if x.2.1 x.2.2.toNatClampNeg < la x.2.2.toNatClampNeg then some (upd x.1 p x.2.2, upd x.2.1 x.2.2.toNatClampNeg (x.2.1 x.2.2.toNatClampNeg + 1), x.1 p) else none
def WfH (h : Nat) (la : Nat → Int32) (x : HS) : Prop := (x.2.2 = -9 ∨ inR x.2.2 0 ((h : Int) - 1)) ∧ (∀ i, i < h → x.1 i = -9 ∨ inR (x.1 i) 0 ((h : Int) - 1)) ∧ ∀ i, i < h → 0 ≤ (x.2.1 i).toInt ∧ (x.2.1 i).toInt ≤ (la i).toInt ∧ (la i).toInt ≤ 20
def AgC (σ : St) (h : Nat) (la : Nat → Int32) (x : HS) : Prop := σ 14 3 = nI h ∧ σ 14 4 = x.2.2 ∧ ∀ i, i < h → σ 15 i = x.1 i ∧ σ 16 i = x.2.1 i ∧ σ 17 i = la i
def AgM (σ : St) (h : Nat) (la : Nat → Int32) (x : HS) : Prop := σ 23 5 = nI h ∧ σ 23 14 = x.2.2 ∧ ∀ i, i < h → σ 31 i = x.1 i ∧ σ 32 i = x.2.1 i ∧ lsV2 (σ 27 i) (σ 28 i) = la i
def FrH (σ σ' : St) : Prop := ∀ a, a ≠ 14 → a ≠ 15 → a ≠ 16 → a ≠ 17 → σ' a = σ a
def FrG (σ σ' : St) : Prop := (∀ a, a ≠ 31 → a ≠ 32 → a ≠ 23 → σ' a = σ a) ∧ ∀ i, i ≠ 14 → σ' 23 i = σ 23 i
theorem FrH.rf (σ : St) : FrH σ σ := fun _ _ _ _ _ => rfl
theorem FrH.tr {a b c : St} (h1 : FrH a b) (h2 : FrH b c) : FrH a c := fun x p q r s => (h2 x p q r s).trans (h1 x p q r s)
theorem FrG.rf (σ : St) : FrG σ σ := ⟨fun _ _ _ _ => rfl, fun _ _ => rfl⟩
theorem FrG.tr {a b c : St} (h1 : FrG a b) (h2 : FrG b c) : FrG a c := ⟨fun x p q r => (h2.1 x p q r).trans (h1.1 x p q r), fun x p => (h2.2 x p).trans (h1.2 x p)⟩
theorem cl_lt {z : Int32} {h : Nat} (hz : inR z 0 ((h : Int) - 1)) : z.toNatClampNeg < h := by rw [tcl]; omega
theorem ne9 {z : Int32} {hi : Int} (hz : inR z 0 hi) : ¬ z = -9 := by rw [fa_eq, tm9]; omega
theorem hStep_wf {h : Nat} {la : Nat → Int32} {x x' : HS} {p : Nat} (hW : WfH h la x) (hp : p < h) (e : hStep la x p = some x') : WfH h la x' := by
  obtain ⟨w1, w2, w3⟩ := hW
  unfold hStep at e
  by_cases h9 : x.2.2 = -9
  · rw [if_pos h9] at e
    cases e
    refine ⟨w2 p hp, fun i hi => ?_, w3⟩
    show upd x.1 p (-9) i = -9 ∨ _
    by_cases ip : i = p
    · left; simp [upd, ip]
    · simp only [upd, ip, if_false]; exact w2 i hi
  · rw [if_neg h9] at e
    have g1 := w1.resolve_left h9
    by_cases hl : x.2.1 x.2.2.toNatClampNeg < la x.2.2.toNatClampNeg
    · rw [if_pos hl] at e
      cases e
      refine ⟨w2 p hp, fun i hi => ?_, fun i hi => ?_⟩
      · show upd x.1 p x.2.2 i = -9 ∨ inR (upd x.1 p x.2.2 i) _ _
        by_cases ip : i = p
        · simp only [upd, ip, if_true]; exact w1
        · simp only [upd, ip, if_false]; exact w2 i hi
      · show 0 ≤ (upd x.2.1 x.2.2.toNatClampNeg _ i).toInt ∧ _
        have w := w3 i hi
        by_cases ip : i = x.2.2.toNatClampNeg
        · simp only [upd]
          rw [if_pos ip]
          rw [← ip] at hl ⊢
          rw [fa_lt] at hl
          have t := tA (x.2.1 i) 1
          have t1 : (1 : Int32).toInt = 1 := rfl
          have r := fb_rng (x.2.1 i + 1)
          omega
        · simp only [upd]
          rw [if_neg ip]
          exact w
    · rw [if_neg hl] at e
      cases e
section HALL
variable {g : GG} {d h : Nat} {σ : St} {la : Nat → Int32} {x : HS} {F : Int32 → St → Prop}
theorem m_changeP {G : St → Prop} {p : Nat} (hp : p < 5) (hF : G (sU (sU σ 15 p (σ 14 4)) 14 4 (σ 15 p))) : ME g d M_X1_changePlaces [vR 14, vI (nI p)] σ (qV G) := by
  refine ME_of (S_X1_changePlaces_0 (nI p) σ ⟨vp_in_nI hp (by decide), ?_⟩)
  rw [cl_n p (by omega)]
  exact hF
theorem m_change {G : St → Prop} {p : Nat} (hp : p < 5) (hF : G (sU (sU σ 31 p (σ 23 14)) 23 14 (σ 31 p))) : ME g d M_X5_change [vR 23, vI (nI p)] σ (qV G) := by
  refine ME_of (S_X5_change_0 (nI p) σ ⟨vp_in_nI hp (by decide), ?_⟩)
  rw [cl_n p (by omega)]
  exact hF
theorem AgC_ch {τ : St} {x' : HS} {p : Nat} (hp : p < h) (hA : AgC τ h la x') {w : Nat → Int32} {z : Int32} (e1 : w = upd x'.1 p x'.2.2) (e2 : z = x'.1 p) : AgC (sU (sU τ 15 p (τ 14 4)) 14 4 (τ 15 p)) h la (w, x'.2.1, z) := by
  obtain ⟨a1, a2, a3⟩ := hA
  refine ⟨a1, ?_, fun i hi => ⟨?_, (a3 i hi).2.1, (a3 i hi).2.2⟩⟩
  · show τ 15 p = z
    rw [(a3 p hp).1, e2]
  · rw [sU_o (by decide), sU_s, e1, a2]
    simp only [upd]
    by_cases ip : i = p
    · rw [if_pos ip, if_pos ip]
    · rw [if_neg ip, if_neg ip]; exact (a3 i hi).1
theorem AgM_ch {τ : St} {x' : HS} {p : Nat} (hp : p < h) (hA : AgM τ h la x') {w : Nat → Int32} {z : Int32} (e1 : w = upd x'.1 p x'.2.2) (e2 : z = x'.1 p) : AgM (sU (sU τ 31 p (τ 23 14)) 23 14 (τ 31 p)) h la (w, x'.2.1, z) := by
  obtain ⟨a1, a2, a3⟩ := hA
  refine ⟨a1, ?_, fun i hi => ⟨?_, (a3 i hi).2.1, (a3 i hi).2.2⟩⟩
  · show τ 31 p = z
    rw [(a3 p hp).1, e2]
  · rw [sU_o (by decide), sU_s, e1, a2]
    simp only [upd]
    by_cases ip : i = p
    · rw [if_pos ip, if_pos ip]
    · rw [if_neg ip, if_neg ip]; exact (a3 i hi).1
theorem AgC_tk {τ : St} {c : Nat} {v : Int32} (hA : AgC τ h la x) : AgC (sU τ 16 c v) h la (x.1, upd x.2.1 c v, x.2.2) := by
  obtain ⟨a1, a2, a3⟩ := hA
  refine ⟨a1, a2, fun i hi => ⟨(a3 i hi).1, ?_, (a3 i hi).2.2⟩⟩
  rw [sU_s]
  show upd (τ 16) c v i = upd x.2.1 c v i
  simp only [upd]
  by_cases ip : i = c
  · rw [if_pos ip, if_pos ip]
  · rw [if_neg ip, if_neg ip]; exact (a3 i hi).2.1
theorem AgM_tk {τ : St} {c : Nat} {v : Int32} (hA : AgM τ h la x) : AgM (sU τ 32 c v) h la (x.1, upd x.2.1 c v, x.2.2) := by
  obtain ⟨a1, a2, a3⟩ := hA
  refine ⟨a1, a2, fun i hi => ⟨(a3 i hi).1, ?_, (a3 i hi).2.2⟩⟩
  rw [sU_s]
  show upd (τ 32) c v i = upd x.2.1 c v i
  simp only [upd]
  by_cases ip : i = c
  · rw [if_pos ip, if_pos ip]
  · rw [if_neg ip, if_neg ip]; exact (a3 i hi).2.1
theorem m_receives {p : Nat} (h5 : h ≤ 5) (hA : AgC σ h la x) (hW : WfH h la x) (hp : p < h) (h1 : ∀ x', hStep la x p = some x' → ∀ σ', AgC σ' h la x' → FrH σ σ' → F 1 σ') (h0 : hStep la x p = none → F 0 σ) : ME g (d + 1) M_X1_receives [vR 14, vI (nI p)] σ (qI F) := by
  obtain ⟨a1, a2, a3⟩ := id hA
  refine ME_of (S_X1_receives_0 (nI p) σ ⟨fun a => m_changeP (by omega) (h1 (upd x.1 p (-9), x.2.1, x.1 p) (by rw [hStep, if_pos (by rw [← a2]; exact a)]) _ (AgC_ch hp hA (by rw [← a2, a]) rfl) (fun b b1 b2 b3 b4 => by rw [sU_o b1, sU_o b2])), fun a => ?_⟩)
  have n9 : ¬ x.2.2 = -9 := by rw [← a2]; exact a
  have g1 := hW.1.resolve_left n9
  have cl := cl_lt g1
  obtain ⟨b1, b2, b3⟩ := a3 _ cl
  rw [a2, b2, b3]
  refine ⟨inR_in g1 (by omega), fun b => ?_, fun b => ?_⟩
  · refine m_changeP (by omega) (h1 _ (by rw [hStep, if_neg n9, if_pos b]) _ (AgC_ch hp (AgC_tk hA) rfl rfl) (fun c c1 c2 c3 c4 => by rw [sU_o c1, sU_o c2, sU_o c3]))
  · exact h0 (by rw [hStep, if_neg n9, if_neg b])
theorem m_visit {p : Nat} (h5 : h ≤ 5) (hA : AgM σ h la x) (hW : WfH h la x) (hp : p < h) (h1 : ∀ x', hStep la x p = some x' → ∀ σ', AgM σ' h la x' → FrG σ σ' → F 1 σ') (h0 : hStep la x p = none → F 0 σ) : ME g (d + 1) M_X5_visit [vR 23, vI (nI p)] σ (qI F) := by
  obtain ⟨a1, a2, a3⟩ := id hA
  refine ME_of (S_X5_visit_0 (nI p) σ ⟨fun a => m_change (by omega) (h1 (upd x.1 p (-9), x.2.1, x.1 p) (by rw [hStep, if_pos (by rw [← a2]; exact a)]) _ (AgM_ch hp hA (by rw [← a2, a]) rfl) ⟨fun b b1 b2 b3 => by rw [sU_o b3, sU_o b1], fun i hi => by rw [sU_s]; simp [upd, hi, sU]⟩), fun a => ?_⟩)
  have n9 : ¬ x.2.2 = -9 := by rw [← a2]; exact a
  have g1 := hW.1.resolve_left n9
  have cl := cl_lt g1
  obtain ⟨b1, b2, b3⟩ := a3 _ cl
  have w := hW.2.2 _ cl
  rw [a2]
  refine ⟨inR_in g1 (by omega), m_lasts ⟨g1.1, by have := g1.2; omega⟩ ?_⟩
  rw [b3, b2]
  refine ⟨fun b => ?_, fun b => ?_⟩
  · have hl : x.2.1 x.2.2.toNatClampNeg < la x.2.2.toNatClampNeg := by
      rw [fa_lt]
      have : ¬ (x.2.1 x.2.2.toNatClampNeg).toInt = (la x.2.2.toNatClampNeg).toInt := fun q => b ((fa_eq _ _).mpr q)
      omega
    rw [a2, b2]
    refine ⟨inR_in g1 (by omega), m_change (by omega) (h1 _ (by rw [hStep, if_neg n9, if_pos hl]) _ (AgM_ch hp (AgM_tk hA) rfl rfl) ⟨fun c c1 c2 c3 => by rw [sU_o c3, sU_o c1, sU_o c2], fun i hi => by rw [sU_s]; simp [upd, hi, sU]⟩)⟩
  · exact h0 (by rw [hStep, if_neg n9, if_neg (by rw [b, fa_lt]; omega)])
/-- the hall is opened -/
theorem l_open {G : St → Prop} (h5 : h ≤ 5) (σ0 : St) (hk : ∀ i, i < h → inR (σ0 11 i) 0 2) (hF : ∀ σ', AgC σ' h (fun i => lsV2 (σ0 11 i) (σ0 12 i)) hs0 → FrH σ0 σ' → G σ') :
    ∀ (n k : Nat) (σ : St), k + n = h → FrH σ0 σ → σ 14 3 = nI h → σ 14 4 = -9 → (∀ i, i < k → σ 15 i = nI i ∧ σ 16 i = 0 ∧ σ 17 i = lsV2 (σ0 11 i) (σ0 12 i)) → VM g (d + 1) M_X1_open (qV G) 16 [(0, vR 14), (1, vR 10), (2, vI (nI k))] [] σ
  | 0, k, σ, hk', f, e3, e4, e => S_X1_open_16 (nI k) σ (brt (by rw [e3]; exact nI_le (by omega) (by omega)) (hF σ ⟨e3, e4, fun i hi => e i (by omega)⟩ f))
  | n + 1, k, σ, hk', f, e3, e4, e => by
    refine S_X1_open_16 (nI k) σ (brn (by rw [e3]; exact nI_ge (by omega) (by omega)) ?_)
    rw [cl_n k (by omega), nI_1]
    have f11 : σ 11 = σ0 11 := f 11 (by decide) (by decide) (by decide) (by decide)
    have f12 : σ 12 = σ0 12 := f 12 (by decide) (by decide) (by decide) (by decide)
    refine ⟨vp_in_nI (by omega) (by decide), m_lasting (by rw [f11]; exact hk k (by omega)) (l_open h5 σ0 hk hF n (k + 1) _ (by omega) (fun a a1 a2 a3 a4 => by rw [sU_o a4, sU_o a3, sU_o a2, f a a1 a2 a3 a4]) e3 e4 (fun i hi => ?_))⟩
    by_cases ik : i = k
    · subst ik
      rw [f11, f12]
      exact ⟨by simp [sU, upd], by simp [sU, upd], by simp [sU, upd]⟩
    · have := e i (by omega)
      simpa [sU, upd, ik] using this
theorem m_open {G : St → Prop} (h5 : h ≤ 5) (hh : σ 10 3 = nI h) (hk : ∀ i, i < h → inR (σ 11 i) 0 2) (hF : ∀ σ', AgC σ' h (fun i => lsV2 (σ 11 i) (σ 12 i)) hs0 → FrH σ σ' → G σ') : ME g (d + 1) M_X1_open [vR 14, vR 10] σ (qV G) :=
  ME_of (S_X1_open_0 σ (l_open h5 σ hk hF h 0 _ (by omega) (fun a a1 _ _ _ => by rw [sU_o a1, sU_o a1]) hh rfl (fun i hi => absurd hi (Nat.not_lt_zero i))))
theorem l_begin {G : St → Prop} (h5 : h ≤ 5) (σ0 : St) (hh : σ0 23 5 = nI h) (hF : ∀ σ', AgM σ' h (fun i => lsV2 (σ0 27 i) (σ0 28 i)) hs0 → FrG σ0 σ' → G σ') :
    ∀ (n k : Nat) (σ : St), k + n = h → (∀ a, a ≠ 31 → a ≠ 32 → σ a = σ0 a) → (∀ i, i < k → σ 31 i = nI i ∧ σ 32 i = 0) → VM g d M_X5_begin (qV G) 2 [(0, vR 23), (1, vI (nI k))] [] σ
  | 0, k, σ, hk', f, e => by
    have e5 : σ 23 5 = nI h := by rw [f 23 (by decide) (by decide), hh]
    refine S_X5_begin_2 (nI k) σ (brt (by rw [e5]; exact nI_le (by omega) (by omega)) (hF _ ⟨e5, rfl, fun i hi => ⟨(e i (by omega)).1, (e i (by omega)).2, ?_⟩⟩ ⟨fun a a1 a2 a3 => by rw [sU_o a3, f a a1 a2], fun i hi => ?_⟩))
    · rw [sU_o (by decide), sU_o (by decide), f 27 (by decide) (by decide), f 28 (by decide) (by decide)]
    · rw [sU_s]
      simp only [upd, hi, if_false]
      rw [f 23 (by decide) (by decide)]
  | n + 1, k, σ, hk', f, e => by
    have e5 : σ 23 5 = nI h := by rw [f 23 (by decide) (by decide), hh]
    refine S_X5_begin_2 (nI k) σ (brn (by rw [e5]; exact nI_ge (by omega) (by omega)) ?_)
    rw [cl_n k (by omega), nI_1]
    refine ⟨vp_in_nI (by omega) (by decide), l_begin h5 σ0 hh hF n (k + 1) _ (by omega) (fun a a1 a2 => by rw [sU_o a2, sU_o a1, f a a1 a2]) (fun i hi => ?_)⟩
    by_cases ik : i = k
    · subst ik
      exact ⟨by simp [sU, upd], by simp [sU, upd]⟩
    · have := e i (by omega)
      simpa [sU, upd, ik] using this
theorem m_begin {G : St → Prop} (h5 : h ≤ 5) (hh : σ 23 5 = nI h) (hF : ∀ σ', AgM σ' h (fun i => lsV2 (σ 27 i) (σ 28 i)) hs0 → FrG σ σ' → G σ') : ME g d M_X5_begin [vR 23] σ (qV G) :=
  ME_of (S_X5_begin_0 σ (l_begin h5 σ hh hF h 0 σ (by omega) (fun _ _ _ => rfl) (fun i hi => absurd hi (Nat.not_lt_zero i))))
theorem AgC_la {la' : Nat → Int32} (hA : AgC σ h la x) (e : ∀ i, i < h → la i = la' i) : AgC σ h la' x := ⟨hA.1, hA.2.1, fun i hi => ⟨(hA.2.2 i hi).1, (hA.2.2 i hi).2.1, (hA.2.2 i hi).2.2.trans (e i hi)⟩⟩
theorem AgM_la {la' : Nat → Int32} (hA : AgM σ h la x) (e : ∀ i, i < h → la i = la' i) : AgM σ h la' x := ⟨hA.1, hA.2.1, fun i hi => ⟨(hA.2.2 i hi).1, (hA.2.2 i hi).2.1, (hA.2.2 i hi).2.2.trans (e i hi)⟩⟩
theorem hs0_wf (h5 : h ≤ 5) (hl : ∀ i, i < h → 0 ≤ (la i).toInt ∧ (la i).toInt ≤ 20) : WfH h la hs0 := by
  refine ⟨Or.inl rfl, fun i hi => Or.inr ?_, fun i hi => ?_⟩
  · show inR (nI i) _ _
    have := nI_v (n := i) (by omega)
    omega
  · have := hl i hi
    exact ⟨show (0 : Int) ≤ (0 : Int32).toInt by decide, this.1, this.2⟩
theorem lsV2_in {kd w : Int32} (hk : inR kd 0 2) (hw : inR w 1 9) : 1 ≤ (lsV2 kd w).toInt ∧ (lsV2 kd w).toInt ≤ 20 := by
  have t1 : (1 : Int32).toInt = 1 := rfl
  have t := tA w 1
  have r := fb_rng (w + 1)
  have t2 := tA (w + 1) (w + 1)
  have r2 := fb_rng (w + 1 + (w + 1))
  have e : 2 * (w + 1) = (w + 1) + (w + 1) := Int32.two_mul
  unfold lsV2
  split
  · omega
  · split
    · omega
    · rw [e]; omega
/-- visits, one behind another: n are left, from the place k on; the first wrong, or how it stands -/
def goF (la : Nat → Int32) (r : Nat → Nat) : Nat → Nat → HS → Nat ⊕ HS
  | 0, _, x => .inr x
  | n + 1, k, x => match hStep la x (r k) with
    | none => .inl k
    | some x' => goF la r n (k + 1) x'
theorem l_firstWrong {r : Nat → Nat} {n : Nat} (h5 : h ≤ 5) (hn : n ≤ 20) (hr : ∀ v, v < n → r v < h) (σ0 : St) (e5 : σ0 0 5 = nI n) (e22 : ∀ v, v < n → σ0 22 v = nI (r v)) (x0 : HS)
    (h1 : ∀ k, goF la r n 0 x0 = .inl k → k < n → ∀ σ', FrH σ0 σ' → F (nI k) σ') (h2 : ∀ x', goF la r n 0 x0 = .inr x' → ∀ σ', AgC σ' h la x' → WfH h la x' → FrH σ0 σ' → F (-9) σ') :
    ∀ (m k : Nat) (x : HS) (σ : St), k + m = n → AgC σ h la x → WfH h la x → FrH σ0 σ → goF la r m k x = goF la r n 0 x0 → VM g (d + 2) M_X4_firstWrong (qI F) 13 [(0, vR 0), (1, vI (nI k))] [] σ
  | 0, k, x, σ, hk, hA, hW, f, e => S_X4_firstWrong_13 (nI k) σ (brt (by rw [f 0 (by decide) (by decide) (by decide) (by decide), e5]; exact nI_le (by omega) (by omega)) (h2 x e.symm σ hA hW f))
  | m + 1, k, x, σ, hk, hA, hW, f, e => by
    refine S_X4_firstWrong_13 (nI k) σ (brn (by rw [f 0 (by decide) (by decide) (by decide) (by decide), e5]; exact nI_ge (by omega) (by omega)) ?_)
    rw [cl_n k (by omega), f 22 (by decide) (by decide) (by decide) (by decide), e22 k (by omega), nI_1]
    refine ⟨vp_in_nI (by omega) (by decide), m_receives h5 hA hW (hr k (by omega)) (fun x' ex σ' hA' f' => b1n ?_) (fun ex => b0n ?_)⟩
    · rw [goF, ex] at e
      exact l_firstWrong h5 hn hr σ0 e5 e22 x0 h1 h2 m (k + 1) x' σ' (by omega) hA' (hStep_wf hW (hr k (by omega)) ex) (f.tr f') e
    · rw [goF, ex] at e
      exact h1 k e.symm (by omega) σ f
theorem l_go {r : Nat → Nat} {n : Nat} (h5 : h ≤ 5) (hn : n ≤ 20) (hr : ∀ v, v < n → r v < h) (σ0 : St) (e5 : σ0 23 15 = nI n) (e22 : ∀ v, v < n → σ0 33 v = nI (r v)) (x0 : HS)
    (h1 : ∀ k, goF la r n 0 x0 = .inl k → k < n → ∀ σ', FrG σ0 σ' → F (nI k) σ') (h2 : ∀ x', goF la r n 0 x0 = .inr x' → ∀ σ', AgM σ' h la x' → WfH h la x' → FrG σ0 σ' → F (-9) σ') :
    ∀ (m k : Nat) (x : HS) (σ : St), k + m = n → AgM σ h la x → WfH h la x → FrG σ0 σ → goF la r m k x = goF la r n 0 x0 → VM g (d + 2) M_X5_go (qI F) 6 [(0, vR 23), (1, vI (nI k))] [] σ
  | 0, k, x, σ, hk, hA, hW, f, e => S_X5_go_6 (nI k) σ (brt (by rw [f.2 15 (by decide), e5]; exact nI_le (by omega) (by omega)) (h2 x e.symm σ hA hW f))
  | m + 1, k, x, σ, hk, hA, hW, f, e => by
    refine S_X5_go_6 (nI k) σ (brn (by rw [f.2 15 (by decide), e5]; exact nI_ge (by omega) (by omega)) ?_)
    rw [cl_n k (by omega), f.1 33 (by decide) (by decide) (by decide), e22 k (by omega), nI_1]
    refine ⟨vp_in_nI (by omega) (by decide), m_visit h5 hA hW (hr k (by omega)) (fun x' ex σ' hA' f' => b1n ?_) (fun ex => b0n ?_)⟩
    · rw [goF, ex] at e
      exact l_go h5 hn hr σ0 e5 e22 x0 h1 h2 m (k + 1) x' σ' (by omega) hA' (hStep_wf hW (hr k (by omega)) ex) (f.tr f') e
    · rw [goF, ex] at e
      exact h1 k e.symm (by omega) σ f
end HALL
