section STCOURT
variable {g : GG} {d : Nat} {σ : St}
/-- the relation, when only scratch and notes changed -/
theorem Rel_gen {σ' : St} (hR : Rel σ) (e : ∀ a, (2 ≤ a ∧ a ≤ 13) ∨ (18 ≤ a ∧ a ≤ 21) ∨ (24 ≤ a ∧ a ≤ 29) ∨ (34 ≤ a ∧ a ≤ 36) → σ' a = σ a) (e0 : σ' 0 6 = σ 0 6) (e1 : σ' 23 1 = σ 23 1) (e5 : σ' 23 5 = σ 23 5) (e18 : σ' 23 18 = σ 23 18) (ef : σ' 0 7 = σ' 23 0) : Rel σ' := by
  obtain ⟨hS, ⟨hh, n, hC, hN⟩, hT, hF⟩ := hR
  refine ⟨RS_fr hS (fun a ha => e a (by omega)), ⟨hh, n, RC_fr hC (by rw [e 10 (by omega)]) e5 (fun a ha => e a (by omega)), RR_fr hN (by rw [e 18 (by omega)]) e18 (fun a ha => e a (by omega))⟩, by rw [e0, e1]; exact hT, ef⟩
theorem m_against {F : Int32 → St → Prop} {k : Nat} {lane i n : Int32} (hk : k < 4) (hs : RS1 σ k) (hl : inR lane 0 2) (h : F (nI (fcN (σ (2 + k) 2) (σ (2 + k) 1) lane i n)) σ) : ME g d M_X5_against [vR 23, vI (nI k), vI lane, vI i, vI n] σ (qI F) := by
  have hcl : (nI k).toNatClampNeg = k := cl_n k (by omega)
  refine ME_of (S_X5_against_0 (nI k) lane i n σ ⟨vp_in_nI hk (by decide), ?_⟩)
  rw [hcl]
  unfold RS1 at hs
  unfold fcN at h
  rcases hs with ⟨s1, s2⟩ | ⟨s1, s2, s3, s4⟩
  · rw [if_pos (by rw [s1]; decide)] at h
    exact brt s2 (brt' s2 h)
  · have n9 : ¬ σ 24 k = -9 := by rw [s4, fa_eq, tm9]; omega
    rw [if_neg (by omega)] at h
    refine brn n9 ⟨fun a => brn' n9 ⟨fun b => ?_, fun b => ?_⟩, fun a => ?_⟩
    · rw [s4] at a
      have z0 : (0 : Int32).toInt = 0 := rfl
      have b' : ¬ n.toInt < 0 := by rw [fa_le, z0] at b; omega
      rw [if_neg (not_not_intro a), if_neg b'] at h
      rw [s2]
      have t1 := tS (σ (2 + k) 2) i
      have r1 := fb_rng (σ (2 + k) 2 - i)
      have r3 := fb_rng i
      refine ⟨fun c => ?_, fun c => ⟨fun e => ?_, fun e => ⟨fun f => ?_, fun f => ?_⟩⟩⟩
      · rw [if_pos (fun q => by rw [fa_lt, z0] at c; have := q.1; omega)] at h; exact h
      · rw [if_pos (fun q => by rw [fa_lt] at e; have := q.2.2; omega)] at h; exact h
      · rw [if_neg (not_not_intro (by rw [fa_lt, z0] at c; rw [fa_lt] at e; rw [fa_le] at f; exact ⟨by omega, by omega, by omega⟩))] at h; exact h
      · rw [if_pos (fun q => by rw [fa_le] at f; rw [fa_lt] at e; rw [fa_lt, z0] at c; have := q.2.2; omega)] at h; exact h
    · rw [s4] at a
      have b' : n.toInt < 0 := by rw [fa_le] at b; simp at b; omega
      rw [if_neg (not_not_intro a), if_pos b'] at h
      exact h
    · rw [s4] at a
      rw [if_pos a] at h
      exact h
theorem fc10 {c : Nat} (h : c ≤ 4) (h0 : c ≠ 0) : fcV c = (-10) - nI c ∧ ntV (fcV c) = nI c ∧ ¬ fcV c = 0 := by
  rcases (show c = 1 ∨ c = 2 ∨ c = 3 ∨ c = 4 by omega) with rfl | rfl | rfl | rfl <;> decide
theorem l_court5 {F : Int32 → St → Prop} {x1 x2 x3 x4 x5 x6 : Int32} {m : Nat} (hm : m ≤ 5) (σ0 : St) (h5 : σ0 23 5 = nI m) (hF : ∀ σ' : St, (∀ c, c ≠ 27 → c ≠ 28 → c ≠ 29 → σ' c = σ0 c) → (∀ p, p < m → σ' 27 p = σ0 30 (3 * p) ∧ σ' 28 p = σ0 30 (3 * p + 1) ∧ σ' 29 p = σ0 30 (3 * p + 2)) → F (nI m) (sU σ' 23 18 0)) :
    ∀ (r p : Nat) (σ : St), p + r = m → (∀ c, c ≠ 27 → c ≠ 28 → c ≠ 29 → σ c = σ0 c) → (∀ q, q < p → σ 27 q = σ0 30 (3 * q) ∧ σ 28 q = σ0 30 (3 * q + 1) ∧ σ 29 q = σ0 30 (3 * q + 2)) → VM g (d + 1) M_X5_court (qI F) 95 [(0, vR 23), (1, vI x1), (2, vI x2), (3, vI x3), (4, vI x4), (5, vI x5), (6, vI x6), (7, vI (nI p))] [] σ
  | 0, p, σ, hp, h1, h2 => by
    have e5 : σ 23 5 = nI m := by rw [h1 23 (by decide) (by decide) (by decide), h5]
    refine S_X5_court_95 x1 x2 x3 x4 x5 x6 (nI p) σ (brt (by rw [e5]; exact nI_le (by omega) (by omega)) ?_)
    rw [e5]
    exact hF σ h1 (fun q hq => h2 q (by omega))
  | r + 1, p, σ, hp, h1, h2 => by
    have e5 : σ 23 5 = nI m := by rw [h1 23 (by decide) (by decide) (by decide), h5]
    refine S_X5_court_95 x1 x2 x3 x4 x5 x6 (nI p) σ (brn (by rw [e5]; exact nI_ge (by omega) (by omega)) ?_)
    have e3 : (3 : Int32) * nI p = nI (3 * p) := pk_mul 3 p
    have e31 : nI (3 * p) + 1 = nI (3 * p + 1) := nI_1 _
    have e32 : nI (3 * p) + 2 = nI (3 * p + 2) := nI_add (3 * p) 2
    have e30 : σ 30 = σ0 30 := h1 30 (by decide) (by decide) (by decide)
    rw [e3, e31, e32, cl_n (3 * p) (by omega), cl_n (3 * p + 1) (by omega), cl_n (3 * p + 2) (by omega), cl_n p (by omega), nI_1, e30]
    refine ⟨vp_in_nI (by omega) (by decide), vp_in_nI (by omega) (by decide), vp_in_nI (by omega) (by decide), vp_in_nI (by omega) (by decide), l_court5 hm σ0 h5 hF r (p + 1) _ (by omega) (fun c c1 c2 c3 => by rw [sU_o c3, sU_o c2, sU_o c1, h1 c c1 c2 c3]) (fun q hq => ?_)⟩
    by_cases e : q = p
    · subst e
      exact ⟨by simp [sU, upd], by simp [sU, upd], by simp [sU, upd]⟩
    · have := h2 q (by omega)
      simpa [sU, upd, e] using this
theorem kdL_in (c : Int32) : inR (kdL c) 0 2 := by
  unfold kdL
  split
  · decide
  · split <;> decide
/-- the model's part of the call, from where its TEXT is read -/
theorem st_court (x lane i n : Int32) (hR : Rel σ) : Dbl g (d + 4) M_X4_court M_X5_court [vI x, vI lane, vI i, vI n] σ := by
  refine ME_of (S_X4_court_0 x lane i n σ (m_troubleOfCells (m_noted ?_)))
  by_cases hx : inR x 0 3
  · obtain ⟨k, rfl, hk3, -⟩ := toN hx
    have hk : k < 4 := by omega
    have hin : vp_in (nI k) 4 := inR_in hx (by decide)
    have hcl : (nI k).toNatClampNeg = k := cl_n k (by omega)
    have hs := hR.1.1 k hk
    rw [tcV, if_neg (not_not_intro hx), hcl]
    by_cases hl : inR lane 0 2
    · rw [if_neg (not_not_intro hl)]
      have hag : ∀ (τ : St) {F : Int32 → St → Prop}, (∀ a, a ≠ 0 → a ≠ 23 → τ a = σ a) → F (nI (fcN (σ (2 + k) 2) (σ (2 + k) 1) lane i n)) τ → ME g (d + 3) M_X5_against [vR 23, vI (nI k), vI lane, vI i, vI n] τ (qI F) := by
        intro τ F e h
        refine m_against hk ?_ hl ?_
        · unfold RS1 at *
          rw [e (2 + k) (by omega) (by omega), e 24 (by decide) (by decide), e 25 (by decide) (by decide)]
          exact hs
        · rw [e (2 + k) (by omega) (by omega)]
          exact h
      by_cases hc : fcN (σ (2 + k) 2) (σ (2 + k) 1) lane i n = 0
      · rw [hc]
        have hh : 0 ≤ (σ (2 + k) 2).toInt ∧ hasC (σ (2 + k) 2) i n := by
          unfold fcN at hc
          split at hc
          · omega
          · split at hc
            · omega
            · split at hc
              · omega
              · split at hc
                · omega
                · rename_i a1 a2 a3 a4
                  exact ⟨by omega, Decidable.not_not.mp a4⟩
        have hlen : (σ (2 + k) 2).toInt ≤ 60 := by
          unfold RS1 at hs
          rcases hs with ⟨s1, s2⟩ | ⟨s1, s2, s3, s4⟩
          · rw [s1]; decide
          · exact s1.2
        obtain ⟨hlen0, h1, h2, h3⟩ := hh
        obtain ⟨i', rfl, hi3, ib⟩ := toN (x := i) (hi := 60) ⟨h1, by omega⟩
        obtain ⟨n', rfl, hn3, nb⟩ := toN (x := n) (hi := 60) ⟨h2, by omega⟩
        have vi := nI_v ib
        have vn := nI_v nb
        have hin60 : i' + n' ≤ 60 := by omega
        refine brt rfl ⟨hin, ?_⟩
        generalize hσ1 : sU σ 0 7 (ntV (fcV 0)) = σ1
        have e1 : ∀ a, a ≠ 0 → σ1 a = σ a := fun a ha => by rw [← hσ1, sU_o ha]
        have e10 : σ1 0 6 = σ 0 6 := by rw [← hσ1]; rfl
        have e17 : σ1 0 7 = 0 := by rw [← hσ1]; rfl
        refine m_firstFault hk hin60 ?_
        have tx : ∀ q, q < n' → σ1 (6 + k) (i' + q) = σ 26 (60 * k + i' + q) := fun q hq => by
          rw [e1 _ (by omega), hR.1.2 k _ hk (by omega)]
          congr 1
          omega
        -- the reference's call
        have md : ∀ (τ : St) (G : Int32 → St → Prop), (∀ a, a ≠ 0 → a ≠ 10 → a ≠ 11 → a ≠ 12 → a ≠ 13 → a ≠ 18 → τ a = σ a) →
            (∀ f, (∀ p, p < f → good σ (60 * k + i') n' p) → ¬ good σ (60 * k + i') n' f → f ≤ n' → ¬ (f = n' ∧ 8 < n' ∧ (n' - 1) % 4 = 0) → ∀ σ', FrP (sU (sU τ 23 0 0) 23 9 (nI (60 * k + i'))) σ' → G ((-100) - nI f) σ') →
            (∀ m, 2 ≤ m → m ≤ 5 → n' = 4 * m + 1 → (∀ p, p < n' → good σ (60 * k + i') n' p) → ∀ σ', FrP (sU (sU τ 23 0 0) 23 9 (nI (60 * k + i'))) σ' → rdOk σ σ' (60 * k + i') m → ∀ σ'', (∀ c, c ≠ 27 → c ≠ 28 → c ≠ 29 → σ'' c = (sU σ' 23 5 (nI m)) c) → (∀ p, p < m → σ'' 27 p = σ' 30 (3 * p) ∧ σ'' 28 p = σ' 30 (3 * p + 1) ∧ σ'' 29 p = σ' 30 (3 * p + 2)) → G (nI m) (sU σ'' 23 18 0)) →
            ME g (d + 4) M_X5_court [vR 23, vI (nI k), vI lane, vI (nI i'), vI (nI n')] τ (qI G) := by
          intro τ G et hb hg
          refine ME_of (S_X5_court_0 (nI k) lane (nI i') (nI n') τ (isSheet5_t hx (b1n (isSort_t hl (b1n ?_)))))
          refine m_against (k := k) (σ := sU τ 23 0 0) hk ?_ hl ?_
          · have r2 : (sU τ 23 0 0) (2 + k) = σ (2 + k) := by rw [sU_o (by omega), et _ (by omega) (by omega) (by omega) (by omega) (by omega) (by omega)]
            have r24 : (sU τ 23 0 0) 24 = σ 24 := by rw [sU_o (by omega), et _ (by omega) (by omega) (by omega) (by omega) (by omega) (by omega)]
            have r25 : (sU τ 23 0 0) 25 = σ 25 := by rw [sU_o (by omega), et _ (by omega) (by omega) (by omega) (by omega) (by omega) (by omega)]
            unfold RS1 at *
            rw [r2, r24, r25]
            exact hs
          · have r2 : (sU τ 23 0 0) (2 + k) = σ (2 + k) := by rw [sU_o (by omega), et _ (by omega) (by omega) (by omega) (by omega) (by omega) (by omega)]
            rw [r2, hc]
            refine brt rfl ?_
            rw [m60, nI_add]
            have g26 : (sU (sU τ 23 0 0) 23 9 (nI (60 * k + i'))) 26 = σ 26 := by rw [sU_o (by decide), sU_o (by decide), et _ (by omega) (by omega) (by omega) (by omega) (by omega) (by omega)]
            have gd : ∀ q, good (sU (sU τ 23 0 0) 23 9 (nI (60 * k + i'))) (60 * k + i') n' q ↔ good σ (60 * k + i') n' q := fun q => by
              unfold good
              rw [g26]
            refine m_readCourt (S := 60 * k + i') (n := n') (by omega) rfl (fun f f1 f2 f3 f4 σ' h1 h2 => b0n ?_) (fun m m2 m5 hm f1 σ' h1 h2 h3 => b1n ?_)
            · rw [h2]
              rw [show nI (60 * k + i' + f) - nI (60 * k + i') = nI f by rw [pk_sub (by omega)]; congr 1; omega]
              exact hb f (fun p hp => (gd p).mp (f1 p hp)) (fun z => f2 ((gd f).mpr z)) f3 f4 σ' h1
            · rw [h2]
              refine l_court5 m5 _ rfl (fun σ'' k1 k2 => hg m m2 m5 hm (fun p hp => (gd p).mp (f1 p hp)) σ' h1 ?_ σ'' k1 (fun p hp => ?_)) m 0 _ (by omega) (fun _ _ _ _ => rfl) (fun q hq => absurd hq (Nat.not_lt_zero q))
              · unfold rdOk at *
                rw [g26] at h3
                exact h3
              · have := k2 p hp
                rw [sU_o (by decide)] at this
                exact this
        have nf : ∀ σ2, FrP (sU (sU σ1 23 0 0) 23 9 (nI (60 * k + i'))) σ2 → Rel σ2 := by
          intro σ2 k1
          have b23 : ∀ i, i ≠ 9 → i ≠ 10 → i ≠ 0 → σ2 23 i = σ 23 i := fun i h9 h10 h0 => by
            rw [k1.2 i h9 h10, sU_s]
            simp only [upd]
            rw [if_neg h9, sU_s]
            simp only [upd]
            rw [if_neg h0, e1 23 (by decide)]
          refine Rel_gen hR (fun a ha => ?_) ?_ (b23 1 (by decide) (by decide) (by decide)) (b23 5 (by decide) (by decide) (by decide)) (b23 18 (by decide) (by decide) (by decide)) ?_
          · rw [k1.1 a (by omega) (by omega), sU_o (by omega), sU_o (by omega), e1 a (by omega)]
          · rw [k1.1 0 (by decide) (by decide), sU_o (by decide), sU_o (by decide), e10]
          · rw [k1.1 0 (by decide) (by decide), sU_o (by decide), sU_o (by decide), e17, k1.2 0 (by decide) (by decide)]
            rfl
        by_cases hall : ∀ p, p < n' → good σ (60 * k + i') n' p
        · have tall : ∀ p, p < n' → gOn p ((fun q => σ1 (6 + k) (i' + q)) p) = true := fun p hp => by
            show gOn p (σ1 (6 + k) (i' + p)) = true
            rw [tx p hp]
            exact (hall p hp).2
          rw [ffN_all tall n' 0 (by omega)]
          by_cases hw : 8 < n' ∧ (n' - 1) % 4 = 0
          · rw [if_pos hw]
            have n21 : n' ≤ 21 := by
              rcases Nat.lt_or_ge 21 n' with z | z
              · exfalso
                have := (hall 21 z).2
                rw [gOn, if_neg (by decide), if_pos (by decide)] at this
                cases this
              · exact z
            obtain ⟨m, hm⟩ : ∃ m, n' = 4 * m + 1 := ⟨(n' - 1) / 4, by omega⟩
            have m2 : 2 ≤ m := by omega
            have m5 : m ≤ 5 := by omega
            refine brt rfl ?_
            have em : (nI n' - 1) / 4 = nI m := by
              show (nI n' - nI 1) / nI 4 = _
              rw [pk_sub (by omega), pk_div (by omega) (by decide) (by decide)]
              congr 1
              omega
            rw [em]
            refine ME_of (S_X0_gather_0 hk (nI i') (nI m) σ1 ?_)
            have emin : (if (5 : Int32) < nI m then 5 else nI m) = nI m := if_neg (nI_nlt (a := 5) (b := m) m5 (by decide))
            rw [emin]
            refine l_gather hk m5 (by omega) (sU σ1 10 3 (nI m)) rfl (fun σ2 g1 g2 => ?_) m 0 _ (by omega) (fun _ _ _ _ => rfl) (fun q hq => absurd hq (Nat.not_lt_zero q))
            rw [g1 10 (by decide) (by decide) (by decide), sU_s]
            show ME g (d + 4) M_X5_court [vR 23, vI (nI k), vI lane, vI (nI i'), vI (nI n')] (sU σ2 18 3 0) (qI fun r2 σ3 => nI m = r2 ∧ Rel σ3)
            have eτ : ∀ a, a ≠ 0 → a ≠ 10 → a ≠ 11 → a ≠ 12 → a ≠ 13 → a ≠ 18 → (sU σ2 18 3 0) a = σ a := fun a h0 h10 h11 h12 h13 h18 => by rw [sU_o h18, g1 a h11 h12 h13, sU_o h10, e1 a h0]
            refine md _ _ eτ (fun f f1 f2 f3 f4 => ?_) (fun m' m2' m5' hm' f1 σ3 k1 k2 σ4 k3 k4 => ?_)
            · exfalso
              rcases Nat.lt_or_ge f n' with z | z
              · exact f2 (hall f z)
              · exact f4 ⟨by omega, hw⟩
            · have mm : m' = m := by omega
              subst mm
              refine ⟨rfl, ?_⟩
              have fin : ∀ a, a ≠ 30 → a ≠ 23 → a ≠ 27 → a ≠ 28 → a ≠ 29 → (sU σ4 23 18 0) a = (sU σ2 18 3 0) a := fun a h30 h23 h27 h28 h29 => by
                rw [sU_o h23, k3 a h27 h28 h29, sU_o h23, k1.1 a h30 h23, sU_o h23, sU_o h23]
              have f23 : ∀ i, i ≠ 9 → i ≠ 10 → i ≠ 18 → i ≠ 5 → i ≠ 0 → (sU σ4 23 18 0) 23 i = σ 23 i := fun i h9 h10 h18 h5 h0 => by
                rw [sU_s]
                simp only [upd]
                rw [if_neg h18, k3 23 (by decide) (by decide) (by decide), sU_s]
                simp only [upd]
                rw [if_neg h5, k1.2 i h9 h10, sU_s]
                simp only [upd]
                rw [if_neg h9, sU_s]
                simp only [upd]
                rw [if_neg h0, eτ 23 (by decide) (by decide) (by decide) (by decide) (by decide) (by decide)]
              refine ⟨RS_fr hR.1 (fun a ha => ?_), ⟨m', 0, ⟨m5, ?_, ?_, fun p hp => ?_⟩, ⟨by decide, ?_, rfl, fun r hr => absurd hr (Nat.not_lt_zero r)⟩⟩, ?_, ?_⟩
              · rw [fin a (by omega) (by omega) (by omega) (by omega) (by omega), eτ a (by omega) (by omega) (by omega) (by omega) (by omega) (by omega)]
              · rw [fin 10 (by decide) (by decide) (by decide) (by decide) (by decide), sU_o (by decide), g1 10 (by decide) (by decide) (by decide)]
                rfl
              · rw [sU_s]
                show (upd (σ4 23) 18 0) 5 = _
                simp only [upd]
                rw [if_neg (by decide), k3 23 (by decide) (by decide) (by decide)]
                rfl
              · have q2 : 4 * p + 4 < n' := by omega
                obtain ⟨w1, w2, w3⟩ := g2 p hp
                obtain ⟨v1, v2, v3⟩ := k4 p hp
                obtain ⟨u1, u2, u3⟩ := k2 p hp
                have t : ∀ q, q < n' → (sU σ1 10 3 (nI m')) (6 + k) (i' + q) = σ 26 (60 * k + i' + q) := fun q hq => by rw [sU_o (by omega)]; exact tx q hq
                rw [t _ (by omega)] at w1 w2 w3
                have a11 : (sU σ4 23 18 0) 11 p = kdL (σ 26 (60 * k + i' + (4 * p + 2))) := by rw [fin 11 (by decide) (by decide) (by decide) (by decide) (by decide), sU_o (by decide)]; exact w1
                have a12 : (sU σ4 23 18 0) 12 p = σ 26 (60 * k + i' + (4 * p + 3)) - 48 := by rw [fin 12 (by decide) (by decide) (by decide) (by decide) (by decide), sU_o (by decide)]; exact w2
                have a13 : (sU σ4 23 18 0) 13 p = σ 26 (60 * k + i' + (4 * p + 4)) - 48 := by rw [fin 13 (by decide) (by decide) (by decide) (by decide) (by decide), sU_o (by decide)]; exact w3
                have a27 : (sU σ4 23 18 0) 27 p = kdL (σ 26 (60 * k + i' + (4 * p + 2))) := by rw [sU_o (by decide), v1]; exact u1
                have a28 : (sU σ4 23 18 0) 28 p = σ 26 (60 * k + i' + (4 * p + 3)) - 48 := by rw [sU_o (by decide), v2]; exact u2
                have a29 : (sU σ4 23 18 0) 29 p = σ 26 (60 * k + i' + (4 * p + 4)) - 48 := by rw [sU_o (by decide), v3]; exact u3
                rw [a11, a12, a13, a27, a28, a29]
                have d3 := (hall (4 * p + 3) (by omega)).2
                rw [gOn, if_neg (by omega), if_neg (by omega), if_neg (by omega), if_neg (by omega), if_pos (by omega), decide_eq_true_eq] at d3
                have d4 := (hall (4 * p + 4) (by omega)).2
                rw [gOn, if_neg (by omega), if_neg (by omega), if_neg (by omega), if_neg (by omega), if_neg (by omega), decide_eq_true_eq] at d4
                have t48 : (48 : Int32).toInt = 48 := rfl
                have s3 := tS (σ 26 (60 * k + i' + (4 * p + 3))) 48
                have s4 := tS (σ 26 (60 * k + i' + (4 * p + 4))) 48
                have r3 := fb_rng (σ 26 (60 * k + i' + (4 * p + 3)) - 48)
                have r4 := fb_rng (σ 26 (60 * k + i' + (4 * p + 4)) - 48)
                exact ⟨rfl, rfl, rfl, kdL_in _, ⟨by omega, by omega⟩, ⟨by omega, by omega⟩⟩
              · rw [fin 18 (by decide) (by decide) (by decide) (by decide) (by decide), sU_s]
                rfl
              · rw [fin 0 (by decide) (by decide) (by decide) (by decide) (by decide), sU_o (by decide), g1 0 (by decide) (by decide) (by decide), sU_o (by decide), e10, f23 1 (by decide) (by decide) (by decide) (by decide) (by decide)]
                exact hR.2.2.1
              · rw [fin 0 (by decide) (by decide) (by decide) (by decide) (by decide), sU_o (by decide), g1 0 (by decide) (by decide) (by decide), sU_o (by decide), e17, sU_s]
                show 0 = (upd (σ4 23) 18 0) 0
                simp only [upd]
                rw [if_neg (by decide), k3 23 (by decide) (by decide) (by decide), sU_s]
                simp only [upd]
                rw [if_neg (by decide), k1.2 0 (by decide) (by decide)]
                rfl
          · rw [if_neg hw]
            refine brn (by intro z; have := congrArg Int32.toInt z; rw [vn, tm9] at this; omega) ?_
            refine md _ _ (fun a h0 _ _ _ _ _ => e1 a h0) (fun f f1 f2 f3 f4 σ2 k1 => ?_) (fun m' m2' m5' hm' f1 σ3 k1 k2 σ4 k3 k4 => ?_)
            · have ff : f = n' := by
                rcases Nat.lt_or_ge f n' with z | z
                · exact absurd (hall f z) f2
                · omega
              rw [ff]
              exact ⟨rfl, nf σ2 k1⟩
            · exact absurd ⟨by omega, by omega⟩ hw
        · obtain ⟨f, ⟨hfn, hfb⟩, hfl⟩ := pk_least (fun p => p < n' ∧ ¬ good σ (60 * k + i') n' p) (Classical.byContradiction (fun z => hall (fun p hp => Classical.byContradiction (fun w => z ⟨p, hp, w⟩))))
          have fg : ∀ p, p < f → good σ (60 * k + i') n' p := fun p hp => Classical.byContradiction (fun w => hfl p hp ⟨by omega, w⟩)
          have eb : ffN (fun q => σ1 (6 + k) (i' + q)) n' n' 0 = nI f := by
            refine ffN_bad hfn (fun p hp => ?_) (fun z => hfb ⟨hfn, ?_⟩) n' 0 (by omega) (Nat.zero_le _)
            · show gOn p (σ1 (6 + k) (i' + p)) = true
              rw [tx p (by omega)]
              exact (fg p hp).2
            · rw [← tx f hfn]
              exact z
          rw [eb]
          refine brn (by intro z; have := congrArg Int32.toInt z; rw [nI_v (by omega), tm9] at this; omega) ?_
          refine md _ _ (fun a h0 _ _ _ _ _ => e1 a h0) (fun f' f1 f2 f3 f4 σ2 k1 => ?_) (fun m' m2' m5' hm' f1 σ3 k1 k2 σ4 k3 k4 => ?_)
          · have ff : f' = f := by
              rcases Nat.lt_or_ge f' f with z | z
              · exact absurd (fg f' z) f2
              · rcases Nat.lt_or_ge f f' with w | w
                · exact absurd (f1 f w) hfb
                · omega
            rw [ff]
            exact ⟨rfl, nf σ2 k1⟩
          · exact absurd (f1 f hfn) hfb
      · have hc4 := fcN_le (σ (2 + k) 2) (σ (2 + k) 1) lane i n
        obtain ⟨c1, c2, c3⟩ := fc10 hc4 hc
        refine brn c3 (ME_of (S_X5_court_0 (nI k) lane i n _ (isSheet5_t hx (b1n (isSort_t hl (b1n (hag _ (fun a h0 h23 => by rw [sU_o h23, sU_o h0]) (brn ?_ (m_fails ⟨c1, ?_⟩)))))))))
        · intro z
          have := (nI_eq (a := fcN (σ (2 + k) 2) (σ (2 + k) 1) lane i n) (b := 0) (by omega) (by decide)).mp z
          exact hc this
        · exact Rel_note hR (fun a h0 h23 => by repeat rw [sU_o (by omega)]) rfl rfl rfl rfl (by rw [c2]; rfl)
    · rw [if_pos hl]
      exact brn (by decide) (ME_of (S_X5_court_0 (nI k) lane i n _ (isSheet5_t hx (b1n (isSort_f hl (b0n ⟨rfl, Rel_n0 hR rfl⟩))))))
  · rw [tcV, if_pos hx]
    exact brn (by decide) (ME_of (S_X5_court_0 x lane i n _ (isSheet5_f hx (b0n ⟨rfl, Rel_n0 hR rfl⟩))))
end STCOURT
