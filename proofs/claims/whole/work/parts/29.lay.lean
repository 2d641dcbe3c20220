/-! VISITS that are told: taken into the row -/
def FrT (σ σ' : St) : Prop := (∀ a, a ≠ 22 → a ≠ 0 → σ' a = σ a) ∧ ∀ j, j ≠ 5 → σ' 0 j = σ 0 j
def FrL (σ σ' : St) : Prop := (∀ a, a ≠ 33 → a ≠ 23 → σ' a = σ a) ∧ ∀ j, j ≠ 15 → j ≠ 0 → σ' 23 j = σ 23 j
/-- all cells are heads -/
def rowOk (f : Nat → Int32) (n h : Nat) : Bool := (List.range n).all (fun v => decide (inR (f v) 0 ((h : Int) - 1)))
theorem rowOk_iff {f : Nat → Int32} {n h : Nat} : rowOk f n h = true ↔ ∀ v, v < n → inR (f v) 0 ((h : Int) - 1) := by
  unfold rowOk
  rw [List.all_eq_true]
  exact ⟨fun q v hv => by simpa using q v (List.mem_range.mpr hv), fun q v hv => by simpa using q v (List.mem_range.mp hv)⟩
/-- the trouble with visits, of a sheet that is one -/
def tvV (σ : St) (h : Nat) (k : Nat) (lane i n : Int32) : Int32 :=
  if ¬ inR lane 0 2 ∨ ¬ inR n 0 20 then -2 else if ¬ fcN (σ (2 + k) 2) (σ (2 + k) 1) lane i n = 0 then fcV (fcN (σ (2 + k) 2) (σ (2 + k) 1) lane i n) else if h = 0 then -3 else if rowOk (fun v => σ (6 + k) (i.toNatClampNeg + v)) n.toNatClampNeg h = true then 0 else -1
theorem fcN_0 {len ln lane i n : Int32} (h : fcN len ln lane i n = 0) : 0 ≤ len.toInt ∧ ln = lane ∧ hasC len i n := by
  unfold fcN at h
  split at h
  · omega
  · split at h
    · omega
    · split at h
      · omega
      · split at h
        · omega
        · rename_i a1 a2 a3 a4
          exact ⟨by omega, Decidable.not_not.mp a2, Decidable.not_not.mp a4⟩
section LAY
variable {g : GG} {d : Nat} {σ : St} {F : Int32 → St → Prop}
theorem l_takeRow {h k i n : Nat} (hk : k < 4) (h5 : h ≤ 5) (hin : i + n ≤ 60) (hn : n ≤ 20) (σ0 : St) (e10 : σ0 10 3 = nI h) (h1 : (∀ v, v < n → inR (σ0 (6 + k) (i + v)) 0 ((h : Int) - 1)) → ∀ σ', FrT σ0 σ' → σ' 0 5 = nI n → (∀ v, v < n → σ' 22 v = σ0 (6 + k) (i + v)) → F 1 σ') (h0 : ¬ (∀ v, v < n → inR (σ0 (6 + k) (i + v)) 0 ((h : Int) - 1)) → ∀ σ', FrT σ0 σ' → F 0 σ') :
    ∀ (m v : Nat) (σ : St), v + m = n → (∀ a, a ≠ 22 → σ a = σ0 a) → (∀ u, u < v → inR (σ0 (6 + k) (i + u)) 0 ((h : Int) - 1) ∧ σ 22 u = σ0 (6 + k) (i + u)) → VM g (d + 1) M_X4_takeRow (qI F) 3 [(0, vR 0), (1, vR (2 + k)), (2, vI (nI i)), (3, vI (nI n)), (4, vI (nI v))] [] σ
  | 0, v, σ, hv, f, e => by
    refine S_X4_takeRow_3 hk (nI i) (nI n) (nI v) σ (brt (nI_le (by omega) (by omega)) (h1 (fun u hu => (e u (by omega)).1) _ ⟨fun a a1 a2 => by rw [sU_o a2, f a a1], fun j hj => ?_⟩ rfl (fun u hu => (e u (by omega)).2)))
    rw [sU_s]
    simp only [upd, hj, if_false]
    rw [f 0 (by decide)]
  | m + 1, v, σ, hv, f, e => by
    refine S_X4_takeRow_3 hk (nI i) (nI n) (nI v) σ (brn (nI_ge (by omega) (by omega)) ?_)
    have e6 : σ (6 + k) = σ0 (6 + k) := f _ (by omega)
    have e10' : σ 10 3 = nI h := by rw [f 10 (by decide), e10]
    rw [nI_add, cl_n _ (by omega), cl_n v (by omega), nI_1, e6]
    refine ⟨vp_in_nI (by omega) (by decide), ?_⟩
    by_cases q : inR (σ0 (6 + k) (i + v)) 0 ((h : Int) - 1)
    · refine has_t h5 e10' q (b1n ⟨vp_in_nI (by omega) (by decide), l_takeRow hk h5 hin hn σ0 e10 h1 h0 m (v + 1) _ (by omega) (fun a ha => by rw [sU_o ha, f a ha]) (fun u hu => ?_)⟩)
      by_cases uv : u = v
      · subst uv
        exact ⟨q, by simp [sU, upd]⟩
      · have := e u (by omega)
        exact ⟨this.1, by simp [sU, upd, uv, this.2]⟩
    · exact has_f h5 e10' q (b0n (h0 (fun z => q (z v (by omega))) σ ⟨fun a a1 _ => f a a1, fun j _ => by rw [f 0 (by decide)]⟩))
theorem m_takeRow {h k i n : Nat} (hk : k < 4) (h5 : h ≤ 5) (hin : i + n ≤ 60) (hn : n ≤ 20) (e10 : σ 10 3 = nI h) (h1 : (∀ v, v < n → inR (σ (6 + k) (i + v)) 0 ((h : Int) - 1)) → ∀ σ', FrT σ σ' → σ' 0 5 = nI n → (∀ v, v < n → σ' 22 v = σ (6 + k) (i + v)) → F 1 σ') (h0 : ¬ (∀ v, v < n → inR (σ (6 + k) (i + v)) 0 ((h : Int) - 1)) → ∀ σ', FrT σ σ' → F 0 σ') : ME g (d + 1) M_X4_takeRow [vR 0, vR (2 + k), vI (nI i), vI (nI n)] σ (qI F) :=
  ME_of (S_X4_takeRow_0 hk (nI i) (nI n) σ (l_takeRow hk h5 hin hn σ e10 h1 h0 n 0 σ (by omega) (fun _ _ => rfl) (fun u hu => absurd hu (Nat.not_lt_zero u))))
/-- the trouble as the class finds it -/
def ctV (σ : St) (h : Nat) (x lane i n fit : Int32) : Int32 := if ¬ inR x 0 3 then -1 else if fit = 0 then -2 else tvV σ h x.toNatClampNeg lane i n
theorem FrT.rf (σ : St) : FrT σ σ := ⟨fun _ _ _ => rfl, fun _ _ => rfl⟩
theorem m_tv {h : Nat} {x lane i n fit : Int32} (hR : Rel σ) (h5 : h ≤ 5) (e10 : σ 10 3 = nI h) (K : ∀ σ', FrT σ σ' → (ctV σ h x lane i n fit = 0 → σ' 0 5 = n ∧ ∀ v, v < n.toNatClampNeg → σ' 22 v = σ (6 + x.toNatClampNeg) (i.toNatClampNeg + v)) → F (ctV σ h x lane i n fit) σ') : ME g (d + 3) M_X4_troubleOfVisits [vR 0, vI x, vI lane, vI i, vI n, vI fit] σ (qI F) := by
  have z0 : (0 : Int32).toInt = 0 := rfl
  have z20 : (20 : Int32).toInt = 20 := rfl
  by_cases hx : inR x 0 3
  · obtain ⟨k, rfl, hk3, -⟩ := toN hx
    have hk : k < 4 := by omega
    have hin : vp_in (nI k) 4 := inR_in hx (by decide)
    have hcl : (nI k).toNatClampNeg = k := cl_n k (by omega)
    refine ME_of (S_X4_troubleOfVisits_0 (nI k) lane i n fit σ (isSheet_t hx (b1p ?_)))
    have out : (¬ inR n 0 20 ∨ fit = 0) → F (-2) σ := fun q => by
      have := K σ (FrT.rf σ)
      have e : ctV σ h (nI k) lane i n fit = -2 := by
        rw [ctV, if_neg (not_not_intro hx)]
        by_cases f : fit = 0
        · rw [if_pos f]
        · rw [if_neg f, tvV, if_pos (Or.inr (q.resolve_right f))]
      rw [e] at this
      exact this (fun z => absurd z (by decide))
    refine ⟨fun a => out (Or.inl (by rw [fa_lt, z0] at a; omega)), fun a => ⟨fun b => out (Or.inl (by rw [fa_lt, z20] at b; omega)), fun b => ⟨fun f => ?_, fun f => out (Or.inr f)⟩⟩⟩
    have hn : inR n 0 20 := by rw [fa_lt, z0] at a; rw [fa_lt, z20] at b; omega
    refine m_troubleOfCells ?_
    rw [tcV, if_neg (not_not_intro hx), hcl]
    rw [ctV, if_neg (not_not_intro hx), if_neg f, hcl, tvV] at K
    by_cases hl : inR lane 0 2
    · rw [if_neg (not_not_intro hl)]
      rw [if_neg (fun q => q.elim (fun w => w hl) (fun w => w hn))] at K
      by_cases hc : fcN (σ (2 + k) 2) (σ (2 + k) 1) lane i n = 0
      · rw [hc]
        rw [if_neg (not_not_intro hc)] at K
        obtain ⟨hlen0, -, c1, c2, c3⟩ := fcN_0 hc
        have hlen : (σ (2 + k) 2).toInt ≤ 60 := by
          have hs := hR.1.1 k hk
          unfold RS1 at hs
          rcases hs with ⟨s1, s2⟩ | ⟨s1, s2, s3, s4⟩
          · rw [s1]; decide
          · exact s1.2
        obtain ⟨i', rfl, hi3, ib⟩ := toN (x := i) (hi := 60) ⟨c1, by omega⟩
        obtain ⟨n', rfl, hn3, nb⟩ := toN hn
        have vi := nI_v ib
        have vn := nI_v nb
        rw [cl_n i' ib, cl_n n' nb] at K
        refine brt rfl ⟨fun e => ?_, fun e => ?_⟩
        · have h0 : ¬ h = 0 := fun q => e (by rw [e10, q]; rfl)
          rw [if_neg h0] at K
          refine ⟨hin, ?_⟩
          refine m_takeRow hk h5 (by omega) (by omega) e10 (fun q σ' f1 f2 f3 => b1p ?_) (fun q σ' f1 => b0p ?_)
          · rw [if_pos (rowOk_iff.mpr q)] at K
            exact K σ' f1 (fun _ => ⟨f2, f3⟩)
          · rw [if_neg (fun z => q (rowOk_iff.mp z))] at K
            exact K σ' f1 (fun z => absurd z (by decide))
        · have h0 : h = 0 := by
            rw [e10] at e
            exact (nI_eq (a := h) (b := 0) (by omega) (by decide)).mp e
          rw [if_pos h0] at K
          exact K σ (FrT.rf σ) (fun z => absurd z (by decide))
      · rw [if_pos hc] at K
        have c3 := (fc10 (fcN_le (σ (2 + k) 2) (σ (2 + k) 1) lane i n) hc).2.2
        exact brn c3 (K σ (FrT.rf σ) (fun z => absurd z c3))
    · rw [if_pos hl]
      rw [if_pos (Or.inl hl)] at K
      exact brn (by decide) (K σ (FrT.rf σ) (fun z => absurd z (by decide)))
  · have e : ctV σ h x lane i n fit = -1 := by rw [ctV, if_pos hx]
    rw [e] at K
    refine ME_of (S_X4_troubleOfVisits_0 x lane i n fit σ (isSheet_f hx (b0p (m_troubleOfCells ?_))))
    rw [tcV, if_pos hx]
    exact brn (by decide) (K σ (FrT.rf σ) (fun z => absurd z (by decide)))
theorem l_layVisits {h k i n : Nat} {x2 x5 : Int32} (hk : k < 4) (h5 : h ≤ 5) (hin : i + n ≤ 60) (hn : n ≤ 20) (σ0 : St) (e5 : σ0 23 5 = nI h) (h1 : (∀ v, v < n → inR (σ0 26 (60 * k + i + v)) 0 ((h : Int) - 1)) → ∀ σ', FrL σ0 σ' → σ' 23 0 = σ0 23 0 → σ' 23 15 = nI n → (∀ v, v < n → σ' 33 v = σ0 26 (60 * k + i + v)) → F 0 σ') (h0 : ¬ (∀ v, v < n → inR (σ0 26 (60 * k + i + v)) 0 ((h : Int) - 1)) → ∀ σ', FrL σ0 σ' → σ' 23 0 = σ0 23 0 → F (-1) σ') :
    ∀ (m v : Nat) (σ : St), v + m = n → (∀ a, a ≠ 33 → σ a = σ0 a) → (∀ u, u < v → inR (σ0 26 (60 * k + i + u)) 0 ((h : Int) - 1) ∧ σ 33 u = σ0 26 (60 * k + i + u)) → VM g (d + 1) M_X5_layVisits (qI F) 36 [(0, vR 23), (1, vI (nI k)), (2, vI x2), (3, vI (nI i)), (4, vI (nI n)), (5, vI x5), (6, vI (nI v))] [] σ
  | 0, v, σ, hv, f, e => by
    refine S_X5_layVisits_36 (nI k) x2 (nI i) (nI n) x5 (nI v) σ (brt (nI_le (by omega) (by omega)) (h1 (fun u hu => (e u (by omega)).1) _ ⟨fun a a1 a2 => by rw [sU_o a2, f a a1], fun j hj hj0 => ?_⟩ ?_ rfl (fun u hu => (e u (by omega)).2)))
    · rw [sU_s]
      simp only [upd, hj, if_false]
      rw [f 23 (by decide)]
    · show σ 23 0 = _
      rw [f 23 (by decide)]
  | m + 1, v, σ, hv, f, e => by
    refine S_X5_layVisits_36 (nI k) x2 (nI i) (nI n) x5 (nI v) σ (brn (nI_ge (by omega) (by omega)) ?_)
    have e26 : σ 26 = σ0 26 := f _ (by decide)
    rw [m60, nI_add, cl_n (60 * k + i + v) (by omega), cl_n v (by omega), nI_1, e26]
    have rr : (sU σ 33 v (σ0 26 (60 * k + i + v))) 33 v = σ0 26 (60 * k + i + v) := by rw [sU_s]; simp [upd]
    rw [rr]
    have e5' : (sU σ 33 v (σ0 26 (60 * k + i + v))) 23 5 = nI h := by rw [sU_o (by decide), f 23 (by decide), e5]
    refine ⟨vp_in_nI (by omega) (by decide), vp_in_nI (by omega) (by decide), ?_⟩
    by_cases q : inR (σ0 26 (60 * k + i + v)) 0 ((h : Int) - 1)
    · refine isHead_t h5 e5' q (b1n (l_layVisits hk h5 hin hn σ0 e5 h1 h0 m (v + 1) _ (by omega) (fun a ha => by rw [sU_o ha, f a ha]) (fun u hu => ?_)))
      by_cases uv : u = v
      · subst uv
        exact ⟨q, rr⟩
      · have := e u (by omega)
        exact ⟨this.1, by simp [sU, upd, uv, this.2]⟩
    · refine isHead_f h5 e5' q (b0n (h0 (fun z => q (z v (by omega))) _ ⟨fun a a1 _ => by rw [sU_o a1, f a a1], fun j _ _ => by rw [sU_o (by decide), f 23 (by decide)]⟩ (by rw [sU_o (by decide), f 23 (by decide)])))
theorem m_layVisits {h k : Nat} {lane i n : Int32} (hk : k < 4) (hS : RS σ) (h5 : h ≤ 5) (hl : inR lane 0 2) (hn : inR n 0 20) (e5 : σ 23 5 = nI h) (ez : σ 23 0 = 0) (K : ∀ σ', FrL σ σ' → σ' 23 0 = ntV (tvV σ h k lane i n) → (tvV σ h k lane i n = 0 → σ' 23 15 = n ∧ ∀ v, v < n.toNatClampNeg → σ' 33 v = σ (6 + k) (i.toNatClampNeg + v)) → F (tvV σ h k lane i n) σ') : ME g (d + 1) M_X5_layVisits [vR 23, vI (nI k), vI lane, vI i, vI n] σ (qI F) := by
  have rf : FrL σ σ := ⟨fun _ _ _ => rfl, fun _ _ _ => rfl⟩
  rw [tvV, if_neg (fun q => q.elim (fun w => w hl) (fun w => w hn))] at K
  refine ME_of (S_X5_layVisits_0 (nI k) lane i n σ (m_against hk (hS.1 k hk) hl ?_))
  by_cases hc : fcN (σ (2 + k) 2) (σ (2 + k) 1) lane i n = 0
  · rw [if_neg (not_not_intro hc)] at K
    rw [hc]
    obtain ⟨hlen0, -, c1, c2, c3⟩ := fcN_0 hc
    have hlen : (σ (2 + k) 2).toInt ≤ 60 := by
      have hs := hS.1 k hk
      unfold RS1 at hs
      rcases hs with ⟨s1, s2⟩ | ⟨s1, s2, s3, s4⟩
      · rw [s1]; decide
      · exact s1.2
    obtain ⟨i', rfl, hi3, ib⟩ := toN (x := i) (hi := 60) ⟨c1, by omega⟩
    obtain ⟨n', rfl, hn3, nb⟩ := toN hn
    have vi := nI_v ib
    have vn := nI_v nb
    rw [cl_n i' ib, cl_n n' nb] at K
    have cell : ∀ v, v < n' → σ 26 (60 * k + i' + v) = σ (6 + k) (i' + v) := fun v hv => by
      rw [hS.2 k (i' + v) hk (by omega)]
      congr 1
      omega
    refine brt rfl ⟨fun e => ?_, fun e => ?_⟩
    · have h0 : ¬ h = 0 := fun q => e (by rw [e5, q]; rfl)
      rw [if_neg h0] at K
      refine l_layVisits hk h5 (by omega) (by omega) σ e5 (fun q σ' f1 fz f2 f3 => ?_) (fun q σ' f1 fz => ?_) n' 0 σ (by omega) (fun _ _ => rfl) (fun u hu => absurd hu (Nat.not_lt_zero u))
      · rw [if_pos (rowOk_iff.mpr (fun v hv => by rw [← cell v hv]; exact q v hv))] at K
        exact K σ' f1 (by rw [fz, ez]; rfl) (fun _ => ⟨f2, fun v hv => by rw [f3 v hv, cell v hv]⟩)
      · rw [if_neg (fun z => q (fun v hv => by rw [cell v hv]; exact rowOk_iff.mp z v hv))] at K
        exact K σ' f1 (by rw [fz, ez]; rfl) (fun z => absurd z (by decide))
    · have h0 : h = 0 := by
        rw [e5] at e
        exact (nI_eq (a := h) (b := 0) (by omega) (by decide)).mp e
      rw [if_pos h0] at K
      exact K σ rf (by rw [ez]; rfl) (fun z => absurd z (by decide))
  · rw [if_pos hc] at K
    obtain ⟨c1, c2, c3⟩ := fc10 (fcN_le (σ (2 + k) 2) (σ (2 + k) 1) lane i n) hc
    refine brn (fun z => hc ((nI_eq (b := 0) (by have := fcN_le (σ (2 + k) 2) (σ (2 + k) 1) lane i n; omega) (by decide)).mp z)) (m_fails ?_)
    rw [← c1]
    refine K _ ⟨fun a _ a2 => sU_o a2, fun j _ hj => by rw [sU_s]; simp [upd, hj]⟩ ?_ (fun z => absurd z c3)
    rw [sU_s, c2]
    simp [upd]
end LAY
