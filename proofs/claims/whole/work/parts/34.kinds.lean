section KINDS
variable {g : GG} {d h c n : Nat} {σ : St} {F : Int32 → St → Prop} {r : Nat → Nat}
theorem la_up {la : Nat → Int32} {p : Nat} {z : Int32} (hl : ∀ i, i < h → 0 ≤ (la i).toInt ∧ (la i).toInt ≤ 20) (hz : 0 ≤ z.toInt ∧ z.toInt ≤ 20) : ∀ i, i < h → 0 ≤ (upd la p z i).toInt ∧ (upd la p z i).toInt ≤ 20 := fun i hi => by
  simp only [upd]
  split
  · exact hz
  · exact hl i hi
theorem l_kinds {p : Nat} {x2 x3 x4 x5 x6 : Int32} (hp : p < h) (σ0 : St) (hX : Cx σ0 h c n r) (e22 : ∀ v, v < n → σ0 22 v = nI (r v)) (hF : ∀ σ', (∀ a, a ≠ 14 → a ≠ 15 → a ≠ 16 → a ≠ 17 → σ' a = σ0 a) → F (setF (fun v => allV (upd (laC σ0) p (lsV2 (nI v) (σ0 12 p))) r n (σ0 19) (σ0 20) (σ0 21) c) 3 0 0) σ') :
    ∀ (m v : Nat) (acc : Int32) (σ : St), v + m = 3 → 0 ≤ v → (∀ a, a ≠ 14 → a ≠ 15 → a ≠ 16 → a ≠ 17 → σ a = σ0 a) → setF (fun v => allV (upd (laC σ0) p (lsV2 (nI v) (σ0 12 p))) r n (σ0 19) (σ0 20) (σ0 21) c) m v acc = setF (fun v => allV (upd (laC σ0) p (lsV2 (nI v) (σ0 12 p))) r n (σ0 19) (σ0 20) (σ0 21) c) 3 0 0 →
      VM g (d + 5) M_X4_kinds (qI F) 31 [(0, vR 0), (1, vI (nI p)), (2, vI x2), (3, vI x3), (4, vI x4), (5, vI x5), (6, vI x6), (7, vI acc), (8, vI (nI v))] [] σ
  | 0, v, acc, σ, hv, hs, f, e => by
    refine S_X4_kinds_31 (nI p) x2 x3 x4 x5 x6 acc (nI v) σ (brt (by rw [show v = 3 by omega]; decide) ?_)
    rw [setF] at e
    rw [e]
    exact hF σ f
  | m + 1, v, acc, σ, hv, hs, f, e => by
    obtain ⟨h5, c8, n20, e10, hk, e18, hh, e05, hr⟩ := id hX
    have vv := nI_v (n := v) (by omega)
    refine S_X4_kinds_31 (nI p) x2 x3 x4 x5 x6 acc (nI v) σ (brn (nI_ge (a := v) (b := 3) (by omega) (by decide)) ?_)
    rw [nI_1]
    have eL : (fun i => lsV2 (σ 11 i) (σ 12 i)) = laC σ0 := by rw [f 11 (by decide) (by decide) (by decide) (by decide), f 12 (by decide) (by decide) (by decide) (by decide)]
    refine m_open h5 (by rw [f 10 (by decide) (by decide) (by decide) (by decide), e10]) (fun i hi => by rw [f 11 (by decide) (by decide) (by decide) (by decide)]; exact (hk i hi).1) (fun σ1 hA f2 => ?_)
    rw [eL] at hA
    have f3 : ∀ a, a ≠ 14 → a ≠ 15 → a ≠ 16 → a ≠ 17 → σ1 a = σ0 a := fun a a1 a2 a3 a4 => by rw [f2 a a1 a2 a3 a4, f a a1 a2 a3 a4]
    rw [cl_n p (by omega), f3 12 (by decide) (by decide) (by decide) (by decide)]
    have kk : inR (nI v) 0 2 := ⟨by omega, by omega⟩
    have ww : inR (σ0 12 p) 1 9 := (hk p hp).2
    have lz := lsV2_in kk ww
    refine ⟨vp_in_nI (by omega) (by decide), m_lasting kk ?_⟩
    have hA2 : AgC (sU σ1 17 p (lsV2 (nI v) (σ0 12 p))) h (upd (laC σ0) p (lsV2 (nI v) (σ0 12 p))) hs0 := by
      refine ⟨hA.1, hA.2.1, fun i hi => ⟨(hA.2.2 i hi).1, (hA.2.2 i hi).2.1, ?_⟩⟩
      rw [sU_s]
      simp only [upd]
      by_cases ip : i = p
      · rw [if_pos ip, if_pos ip]
      · rw [if_neg ip, if_neg ip]; exact (hA.2.2 i hi).2.2
    have g3 : ∀ a, a ≠ 14 → a ≠ 15 → a ≠ 16 → a ≠ 17 → (sU σ1 17 p (lsV2 (nI v) (σ0 12 p))) a = σ0 a := fun a a1 a2 a3 a4 => by rw [sU_o a4, f3 a a1 a2 a3 a4]
    refine m_bitIf (la := upd (laC σ0) p (lsV2 (nI v) (σ0 12 p))) (r := r) (n := n) h5 c8 n20 hr hh ⟨by rw [g3 18 (by decide) (by decide) (by decide) (by decide)]; exact e18, fun z hz => ⟨by rw [g3 19 (by decide) (by decide) (by decide) (by decide)], by rw [g3 20 (by decide) (by decide) (by decide) (by decide)], by rw [g3 21 (by decide) (by decide) (by decide) (by decide)]⟩⟩ (by rw [g3 0 (by decide) (by decide) (by decide) (by decide)]; exact e05) (fun v hv => by rw [g3 22 (by decide) (by decide) (by decide) (by decide)]; exact e22 v hv) hA2 (hs0_wf h5 (la_up (la_in hk) ⟨by omega, lz.2⟩)) (fun σ2 f4 => ?_)
    rw [setF] at e
    exact l_kinds hp σ0 hX e22 hF m (v + 1) _ σ2 (by omega) (by omega) (fun a a1 a2 a3 a4 => by rw [f4 a a1 a2 a3 a4, g3 a a1 a2 a3 a4]) e
theorem l_kinds5 {p : Nat} {x2 x3 x4 x5 x6 : Int32} (hp : p < h) (σ0 σ1 : St) (hX : Mx σ0 σ1 h c n r) (e33 : ∀ v, v < n → σ1 33 v = nI (r v)) (hF : ∀ σ', (∀ a, a ≠ 23 → a ≠ 31 → a ≠ 32 → σ' a = σ1 a) → (∀ j, j ≠ 14 → σ' 23 j = σ1 23 j) → F (setF (fun v => allV (upd (laC σ0) p (lsV2 (nI v) (σ0 12 p))) r n (σ0 19) (σ0 20) (σ0 21) c) 3 0 0) σ') :
    ∀ (m v : Nat) (acc : Int32) (σ : St), v + m = 3 → 0 ≤ v → (∀ a, a ≠ 23 → a ≠ 31 → a ≠ 32 → a ≠ 27 → σ a = σ1 a) → (∀ j, j ≠ 14 → σ 23 j = σ1 23 j) → (∀ i, i ≠ p → σ 27 i = σ1 27 i) → setF (fun v => allV (upd (laC σ0) p (lsV2 (nI v) (σ0 12 p))) r n (σ0 19) (σ0 20) (σ0 21) c) m v acc = setF (fun v => allV (upd (laC σ0) p (lsV2 (nI v) (σ0 12 p))) r n (σ0 19) (σ0 20) (σ0 21) c) 3 0 0 →
      VM g (d + 3) M_X5_kinds (qI F) 35 [(0, vR 23), (1, vI (nI p)), (2, vI x2), (3, vI x3), (4, vI x4), (5, vI x5), (6, vI x6), (7, vI (σ1 27 p)), (8, vI acc), (9, vI (nI v))] [] σ
  | 0, v, acc, σ, hv, hs, f, f23, fp, e => by
    obtain ⟨h5, c8, n20, e5, hk, e18, hh, e15, hr⟩ := id hX
    refine S_X5_kinds_35 (nI p) x2 x3 x4 x5 x6 (σ1 27 p) acc (nI v) σ (brt (by rw [show v = 3 by omega]; decide) ⟨vp_in_nI (by omega) (by decide), ?_⟩)
    rw [setF] at e
    rw [e, cl_n p (by omega)]
    refine hF _ (fun a a1 a2 a3 => ?_) (fun j hj => by rw [sU_o (by decide), f23 j hj])
    by_cases ac : a = 27
    · subst ac
      rw [sU_s]
      funext i
      simp only [upd]
      by_cases ip : i = p
      · rw [if_pos ip, ip]
      · rw [if_neg ip, fp i ip]
    · rw [sU_o ac, f a a1 a2 a3 ac]
  | m + 1, v, acc, σ, hv, hs, f, f23, fp, e => by
    obtain ⟨h5, c8, n20, e5, hk, e18, hh, e15, hr⟩ := id hX
    have vv := nI_v (n := v) (by omega)
    refine S_X5_kinds_35 (nI p) x2 x3 x4 x5 x6 (σ1 27 p) acc (nI v) σ (brn (nI_ge (a := v) (b := 3) (by omega) (by decide)) ⟨vp_in_nI (by omega) (by decide), ?_⟩)
    rw [cl_n p (by omega), nI_1, or0]
    have kk : inR (nI v) 0 2 := ⟨by omega, by omega⟩
    have ww : inR (σ0 12 p) 1 9 := (hk p hp).2.1
    have lz := lsV2_in kk ww
    have g1 : ∀ a, a ≠ 23 → a ≠ 31 → a ≠ 32 → a ≠ 27 → (sU σ 27 p (nI v)) a = σ1 a := fun a a1 a2 a3 a4 => by rw [sU_o a4, f a a1 a2 a3 a4]
    have nx : ∀ (acc' : Int32) (σ2 : St), FrG (sU σ 27 p (nI v)) σ2 → setF (fun v => allV (upd (laC σ0) p (lsV2 (nI v) (σ0 12 p))) r n (σ0 19) (σ0 20) (σ0 21) c) m (v + 1) acc' = setF (fun v => allV (upd (laC σ0) p (lsV2 (nI v) (σ0 12 p))) r n (σ0 19) (σ0 20) (σ0 21) c) 3 0 0 → VM g (d + 3) M_X5_kinds (qI F) 35 [(0, vR 23), (1, vI (nI p)), (2, vI x2), (3, vI x3), (4, vI x4), (5, vI x5), (6, vI x6), (7, vI (σ1 27 p)), (8, vI acc'), (9, vI (nI (v + 1)))] [] σ2 := fun acc' σ2 f4 e' => by
      refine l_kinds5 hp σ0 σ1 hX e33 hF m (v + 1) acc' σ2 (by omega) (by omega) (fun a a1 a2 a3 a4 => by rw [f4.1 a a2 a3 a1, g1 a a1 a2 a3 a4]) (fun j hj => by rw [f4.2 j hj, sU_o (by decide), f23 j hj]) (fun i hi => ?_) e'
      rw [f4.1 27 (by decide) (by decide) (by decide), sU_s]
      simp only [upd]
      rw [if_neg hi, fp i hi]
    rw [setF] at e
    refine m_areSo5 (la := upd (laC σ0) p (lsV2 (nI v) (σ0 12 p))) (r := r) (n := n) (rt := σ0 19) (rh := σ0 20) (rf := σ0 21) (c := c) h5 c8 n20 hr (fun z hz => (hh z hz).1) ⟨by rw [sU_o (by decide), f23 18 (by decide), e18], fun z hz => ?_⟩ (by rw [sU_o (by decide), f23 15 (by decide), e15]) (fun v hv => by rw [g1 33 (by decide) (by decide) (by decide) (by decide)]; exact e33 v hv) (by rw [sU_o (by decide), f23 5 (by decide), e5]) (fun i hi => ?_) (la_up (la_in (fun i hi => ⟨(hk i hi).1, (hk i hi).2.1⟩)) ⟨by omega, lz.2⟩) (fun b σ2 f4 => b1p (nx _ σ2 f4 ?_)) (fun b σ2 f4 => b0p (nx _ σ2 f4 ?_))
    · rw [g1 34 (by decide) (by decide) (by decide) (by decide), g1 35 (by decide) (by decide) (by decide) (by decide), g1 36 (by decide) (by decide) (by decide) (by decide)]
      exact (hh z hz).2
    · rw [g1 28 (by decide) (by decide) (by decide) (by decide), sU_s]
      simp only [upd]
      by_cases ip : i = p
      · rw [if_pos ip, if_pos ip, ip, (hk p hp).2.2.2]
      · rw [if_neg ip, if_neg ip, fp i ip, (hk i hi).2.2.1, (hk i hi).2.2.2]
    · rw [if_pos b] at e; exact e
    · rw [if_neg (by rw [b]; decide), or0] at e; exact e
theorem st_kinds (p x lane i n : Int32) (hR : Rel σ) : Dbl g (d + 5) M_X4_kinds M_X5_kinds [vI p, vI x, vI lane, vI i, vI n] σ := by
  obtain ⟨h, c, hC, hN⟩ := hR.2.1
  obtain ⟨h5, e10, e23, hc⟩ := id hC
  have one : ∀ (r : Int32), ¬ r = 0 → ntV r = 0 → (inR p 0 ((h : Int) - 1) → ctV σ h x lane i n 1 = r) → (¬ inR p 0 ((h : Int) - 1) → r = -1) → (∀ τ, FrC σ τ → τ 0 7 = 0 → ME g (d + 5) M_X5_kinds [vR 23, vI p, vI x, vI lane, vI i, vI n] τ (qI fun r2 σ2 => r = r2 ∧ Rel σ2)) → ME g (d + 5) M_X4_kinds [vR 0, vI p, vI x, vI lane, vI i, vI n] σ (qI fun r1 σ1 => ME g (d + 5) M_X5_kinds [vR 23, vI p, vI x, vI lane, vI i, vI n] σ1 (qI fun r2 σ2 => r1 = r2 ∧ Rel σ2)) := by
    intro r ne nt e1 e2 md
    refine ME_of (S_X4_kinds_0 p x lane i n σ (ME_of (S_X4_troubleOfOne_0 p x lane i n σ ?_)))
    by_cases hp : inR p 0 ((h : Int) - 1)
    · refine has_t h5 e10 hp (b1p (m_tv hR h5 e10 (fun σ1 f1 _ => m_noted ?_)))
      rw [e1 hp]
      exact brn ne (md _ (FrT_nt f1) (by rw [sU_s]; simp [upd, nt]))
    · refine has_f h5 e10 hp (b0p (m_noted ?_))
      have := e2 hp
      subst this
      exact brn ne (md _ (FrT_nt (FrT.rf σ)) (by rw [sU_s]; simp [upd, nt]))
  have g5 : ∀ τ, FrC σ τ → (sU τ 23 0 0) 23 5 = nI h := fun τ f => by
    rw [sU_s]
    show upd (τ 23) 0 0 5 = _
    simp only [upd]
    rw [if_neg (by decide), f.1 23 (by decide) (by decide) (by decide) (by decide) (by decide) (by decide), e23]
  by_cases hp : inR p 0 ((h : Int) - 1)
  · by_cases hx : inR x 0 3
    · by_cases hln : inR lane 0 2 ∧ inR n 0 20
      · obtain ⟨k, rfl, hk3, -⟩ := toN hx
        have hk : k < 4 := by omega
        have hcl : (nI k).toNatClampNeg = k := cl_n k (by omega)
        have ect : ctV σ h (nI k) lane i n 1 = tvV σ h k lane i n := by rw [ctV, if_neg (not_not_intro hx), if_neg (by decide), hcl]
        have hin : vp_in p 5 := inR_in hp (by omega)
        have md : ∀ (τ : St) (G : Int32 → St → Prop), FrC σ τ → (tvV σ h k lane i n ≠ 0 → ∀ σ', FrX τ σ' → σ' 23 0 = ntV (tvV σ h k lane i n) → G (tvV σ h k lane i n) σ') → (tvV σ h k lane i n = 0 → ∀ σ1, FrL (sU τ 23 0 0) σ1 → σ1 23 0 = 0 → σ1 23 15 = n → (∀ v, v < n.toNatClampNeg → σ1 33 v = σ (6 + k) (i.toNatClampNeg + v)) → VM g (d + 5) M_X5_kinds (qI G) 35 [(0, vR 23), (1, vI p), (2, vI (nI k)), (3, vI lane), (4, vI i), (5, vI n), (6, vI 0), (7, vI (σ1 27 p.toNatClampNeg)), (8, vI 0), (9, vI 0)] [] σ1) → ME g (d + 5) M_X5_kinds [vR 23, vI p, vI (nI k), vI lane, vI i, vI n] τ (qI G) := by
          intro τ G f K1 K2
          have gg : ∀ a, a ≠ 0 → a ≠ 14 → a ≠ 15 → a ≠ 16 → a ≠ 17 → a ≠ 22 → a ≠ 23 → (sU τ 23 0 0) a = σ a := fun a a0 a14 a15 a16 a17 a22 a23 => by rw [sU_o a23, f.1 a a0 a14 a15 a16 a17 a22]
          have hS : RS (sU τ 23 0 0) := RS_fr hR.1 (fun a ha => gg a (by omega) (by omega) (by omega) (by omega) (by omega) (by omega) (by omega))
          have etv : tvV (sU τ 23 0 0) h k lane i n = tvV σ h k lane i n := by
            unfold tvV
            rw [gg (2 + k) (by omega) (by omega) (by omega) (by omega) (by omega) (by omega) (by omega), gg (6 + k) (by omega) (by omega) (by omega) (by omega) (by omega) (by omega) (by omega)]
          refine ME_of (S_X5_kinds_0 p (nI k) lane i n τ (ME_of (S_X5_lay_0 p (nI k) lane i n τ (isHead_t h5 (g5 τ f) hp (b1p (isSheet5_t hx (b1n (m_isRow (fun _ _ => b1p ?_) (fun q => absurd hln q)))))))))
          refine m_layVisits hk hS h5 hln.1 hln.2 (g5 τ f) rfl (fun σ1 f1 q0 q1 => ?_)
          rw [etv] at q0 q1 ⊢
          by_cases e0 : tvV σ h k lane i n = 0
          · rw [e0]
            rw [e0] at q0
            obtain ⟨q2, q3⟩ := q1 e0
            exact brt rfl ⟨hin, K2 e0 σ1 f1 q0 q2 (fun v hv => by rw [q3 v hv, gg (6 + k) (by omega) (by omega) (by omega) (by omega) (by omega) (by omega) (by omega)])⟩
          · exact brn e0 (K1 e0 σ1 (FrX_L f1) q0)
        refine ME_of (S_X4_kinds_0 p (nI k) lane i n σ (ME_of (S_X4_troubleOfOne_0 p (nI k) lane i n σ (has_t h5 e10 hp (b1p (m_tv hR h5 e10 (fun σ1 f1 q1 => m_noted ?_)))))))
        rw [ect] at q1 ⊢
        by_cases e0 : tvV σ h k lane i n = 0
        · rw [e0]
          obtain ⟨q2, q3⟩ := q1 e0
          obtain ⟨n', rfl, hn3, nb⟩ := toN hln.2
          have vn := nI_v nb
          obtain ⟨p', rfl, hp3, pb⟩ := toN hp
          have hpl : p' < h := by omega
          obtain ⟨hX, rv⟩ := Cx_of (z := ntV 0) (x := nI k) hC hN f1 e0 nb q2
          rw [cl_n n' nb, hcl] at q3
          refine brt rfl (l_kinds hpl _ hX (fun v hv => by rw [sU_o (by decide), q3 v hv]; exact rv v hv) (fun σ2 f2 => ?_) 3 0 0 _ rfl (Nat.le_refl _) (fun _ _ _ _ _ => rfl) rfl)
          obtain ⟨fc2, z7⟩ := FrC_w f1 (fun a a1 a2 a3 a4 _ => f2 a a1 a2 a3 a4)
          refine md σ2 _ fc2 (fun q => absurd e0 q) (fun _ σ3 f3 q0 q15 q33 => ?_)
          have hM := Mx_of (τ0 := σ) hC hN fc2 f3 e0 nb q15
          rw [cl_n n' nb] at q33
          have eP : laC (sU σ1 0 7 (ntV 0)) = laC σ := by
            show (fun i => lsV2 ((sU σ1 0 7 (ntV 0)) 11 i) ((sU σ1 0 7 (ntV 0)) 12 i)) = _
            rw [same_c f1 (by decide) (by decide) (by decide) (by decide) (by decide) (by decide) (by decide), same_c f1 (by decide) (by decide) (by decide) (by decide) (by decide) (by decide) (by decide)]
          rw [eP, same_c (k := 19) f1 (by decide) (by decide) (by decide) (by decide) (by decide) (by decide) (by decide), same_c (k := 20) f1 (by decide) (by decide) (by decide) (by decide) (by decide) (by decide) (by decide), same_c (k := 21) f1 (by decide) (by decide) (by decide) (by decide) (by decide) (by decide) (by decide), same_c (k := 12) f1 (by decide) (by decide) (by decide) (by decide) (by decide) (by decide) (by decide), cl_n p' pb]
          refine l_kinds5 hpl σ σ3 hM (fun v hv => by rw [q33 v hv]; exact rv v hv) (fun σ4 f4 f5 => ⟨rfl, Rel_fin hR fc2 (FrX_w (FrX_L f3) (fun a a1 a2 a3 _ => f4 a a1 a2 a3) f5) z7 ?_⟩) 3 0 0 _ rfl (Nat.le_refl _) (fun _ _ _ _ _ => rfl) (fun _ _ => rfl) (fun _ _ => rfl) rfl
          rw [f5 0 (by decide), q0]
          rfl
        · refine brn e0 (md _ _ (FrT_nt f1) (fun _ σ' fx q => ⟨rfl, Rel_fin hR (FrT_nt f1) fx ?_ q⟩) (fun q => absurd q e0))
          rw [sU_s]
          simp [upd]
      · refine one (-2) (by decide) (by decide) (fun _ => ?_) (fun q => absurd hp q) (fun τ f q => ?_)
        · rw [ctV, if_neg (not_not_intro hx), if_neg (by decide), tvV, if_pos (by omega)]
        · exact ME_of (S_X5_kinds_0 p x lane i n τ (ME_of (S_X5_lay_0 p x lane i n τ (isHead_t h5 (g5 τ f) hp (b1p (isSheet5_t hx (b1n (m_isRow (fun a b => absurd ⟨a, b⟩ hln) (fun _ => b0p (brn (by decide) ⟨rfl, Rel_fin hR f FrX_0 q rfl⟩))))))))))
    · refine one (-1) (by decide) (by decide) (fun _ => by rw [ctV, if_pos hx]) (fun q => absurd hp q) (fun τ f q => ?_)
      exact ME_of (S_X5_kinds_0 p x lane i n τ (ME_of (S_X5_lay_0 p x lane i n τ (isHead_t h5 (g5 τ f) hp (b1p (isSheet5_f hx (b0n (brn (by decide) ⟨rfl, Rel_fin hR f FrX_0 q rfl⟩))))))))
  · refine one (-1) (by decide) (by decide) (fun q => absurd q hp) (fun _ => rfl) (fun τ f q => ?_)
    exact ME_of (S_X5_kinds_0 p x lane i n τ (ME_of (S_X5_lay_0 p x lane i n τ (isHead_f h5 (g5 τ f) hp (b0p (brn (by decide) ⟨rfl, Rel_fin hR f FrX_0 q rfl⟩))))))
theorem l_wears {p : Nat} {x2 x3 x4 x5 x6 : Int32} (hp : p < h) (σ0 : St) (hX : Cx σ0 h c n r) (e22 : ∀ v, v < n → σ0 22 v = nI (r v)) (hF : ∀ σ', (∀ a, a ≠ 14 → a ≠ 15 → a ≠ 16 → a ≠ 17 → σ' a = σ0 a) → F (setF (fun v => allV (upd (laC σ0) p (lsV2 (σ0 11 p) (nI v))) r n (σ0 19) (σ0 20) (σ0 21) c) 9 1 0) σ') :
    ∀ (m v : Nat) (acc : Int32) (σ : St), v + m = 10 → 1 ≤ v → (∀ a, a ≠ 14 → a ≠ 15 → a ≠ 16 → a ≠ 17 → σ a = σ0 a) → setF (fun v => allV (upd (laC σ0) p (lsV2 (σ0 11 p) (nI v))) r n (σ0 19) (σ0 20) (σ0 21) c) m v acc = setF (fun v => allV (upd (laC σ0) p (lsV2 (σ0 11 p) (nI v))) r n (σ0 19) (σ0 20) (σ0 21) c) 9 1 0 →
      VM g (d + 5) M_X4_wears (qI F) 31 [(0, vR 0), (1, vI (nI p)), (2, vI x2), (3, vI x3), (4, vI x4), (5, vI x5), (6, vI x6), (7, vI acc), (8, vI (nI v))] [] σ
  | 0, v, acc, σ, hv, hs, f, e => by
    refine S_X4_wears_31 (nI p) x2 x3 x4 x5 x6 acc (nI v) σ (brt (by rw [show v = 10 by omega]; decide) ?_)
    rw [setF] at e
    rw [e]
    exact hF σ f
  | m + 1, v, acc, σ, hv, hs, f, e => by
    obtain ⟨h5, c8, n20, e10, hk, e18, hh, e05, hr⟩ := id hX
    have vv := nI_v (n := v) (by omega)
    refine S_X4_wears_31 (nI p) x2 x3 x4 x5 x6 acc (nI v) σ (brn (nI_nlt (a := 9) (b := v) (by omega) (by decide)) ?_)
    rw [nI_1]
    have eL : (fun i => lsV2 (σ 11 i) (σ 12 i)) = laC σ0 := by rw [f 11 (by decide) (by decide) (by decide) (by decide), f 12 (by decide) (by decide) (by decide) (by decide)]
    refine m_open h5 (by rw [f 10 (by decide) (by decide) (by decide) (by decide), e10]) (fun i hi => by rw [f 11 (by decide) (by decide) (by decide) (by decide)]; exact (hk i hi).1) (fun σ1 hA f2 => ?_)
    rw [eL] at hA
    have f3 : ∀ a, a ≠ 14 → a ≠ 15 → a ≠ 16 → a ≠ 17 → σ1 a = σ0 a := fun a a1 a2 a3 a4 => by rw [f2 a a1 a2 a3 a4, f a a1 a2 a3 a4]
    rw [cl_n p (by omega), f3 11 (by decide) (by decide) (by decide) (by decide)]
    have kk : inR (σ0 11 p) 0 2 := (hk p hp).1
    have ww : inR (nI v) 1 9 := ⟨by omega, by omega⟩
    have lz := lsV2_in kk ww
    refine ⟨vp_in_nI (by omega) (by decide), m_lasting kk ?_⟩
    have hA2 : AgC (sU σ1 17 p (lsV2 (σ0 11 p) (nI v))) h (upd (laC σ0) p (lsV2 (σ0 11 p) (nI v))) hs0 := by
      refine ⟨hA.1, hA.2.1, fun i hi => ⟨(hA.2.2 i hi).1, (hA.2.2 i hi).2.1, ?_⟩⟩
      rw [sU_s]
      simp only [upd]
      by_cases ip : i = p
      · rw [if_pos ip, if_pos ip]
      · rw [if_neg ip, if_neg ip]; exact (hA.2.2 i hi).2.2
    have g3 : ∀ a, a ≠ 14 → a ≠ 15 → a ≠ 16 → a ≠ 17 → (sU σ1 17 p (lsV2 (σ0 11 p) (nI v))) a = σ0 a := fun a a1 a2 a3 a4 => by rw [sU_o a4, f3 a a1 a2 a3 a4]
    refine m_bitIf (la := upd (laC σ0) p (lsV2 (σ0 11 p) (nI v))) (r := r) (n := n) h5 c8 n20 hr hh ⟨by rw [g3 18 (by decide) (by decide) (by decide) (by decide)]; exact e18, fun z hz => ⟨by rw [g3 19 (by decide) (by decide) (by decide) (by decide)], by rw [g3 20 (by decide) (by decide) (by decide) (by decide)], by rw [g3 21 (by decide) (by decide) (by decide) (by decide)]⟩⟩ (by rw [g3 0 (by decide) (by decide) (by decide) (by decide)]; exact e05) (fun v hv => by rw [g3 22 (by decide) (by decide) (by decide) (by decide)]; exact e22 v hv) hA2 (hs0_wf h5 (la_up (la_in hk) ⟨by omega, lz.2⟩)) (fun σ2 f4 => ?_)
    rw [setF] at e
    exact l_wears hp σ0 hX e22 hF m (v + 1) _ σ2 (by omega) (by omega) (fun a a1 a2 a3 a4 => by rw [f4 a a1 a2 a3 a4, g3 a a1 a2 a3 a4]) e
theorem l_wears5 {p : Nat} {x2 x3 x4 x5 x6 : Int32} (hp : p < h) (σ0 σ1 : St) (hX : Mx σ0 σ1 h c n r) (e33 : ∀ v, v < n → σ1 33 v = nI (r v)) (hF : ∀ σ', (∀ a, a ≠ 23 → a ≠ 31 → a ≠ 32 → σ' a = σ1 a) → (∀ j, j ≠ 14 → σ' 23 j = σ1 23 j) → F (setF (fun v => allV (upd (laC σ0) p (lsV2 (σ0 11 p) (nI v))) r n (σ0 19) (σ0 20) (σ0 21) c) 9 1 0) σ') :
    ∀ (m v : Nat) (acc : Int32) (σ : St), v + m = 10 → 1 ≤ v → (∀ a, a ≠ 23 → a ≠ 31 → a ≠ 32 → a ≠ 28 → σ a = σ1 a) → (∀ j, j ≠ 14 → σ 23 j = σ1 23 j) → (∀ i, i ≠ p → σ 28 i = σ1 28 i) → setF (fun v => allV (upd (laC σ0) p (lsV2 (σ0 11 p) (nI v))) r n (σ0 19) (σ0 20) (σ0 21) c) m v acc = setF (fun v => allV (upd (laC σ0) p (lsV2 (σ0 11 p) (nI v))) r n (σ0 19) (σ0 20) (σ0 21) c) 9 1 0 →
      VM g (d + 3) M_X5_wears (qI F) 35 [(0, vR 23), (1, vI (nI p)), (2, vI x2), (3, vI x3), (4, vI x4), (5, vI x5), (6, vI x6), (7, vI (σ1 28 p)), (8, vI acc), (9, vI (nI v))] [] σ
  | 0, v, acc, σ, hv, hs, f, f23, fp, e => by
    obtain ⟨h5, c8, n20, e5, hk, e18, hh, e15, hr⟩ := id hX
    refine S_X5_wears_35 (nI p) x2 x3 x4 x5 x6 (σ1 28 p) acc (nI v) σ (brt (by rw [show v = 10 by omega]; decide) ⟨vp_in_nI (by omega) (by decide), ?_⟩)
    rw [setF] at e
    rw [e, cl_n p (by omega)]
    refine hF _ (fun a a1 a2 a3 => ?_) (fun j hj => by rw [sU_o (by decide), f23 j hj])
    by_cases ac : a = 28
    · subst ac
      rw [sU_s]
      funext i
      simp only [upd]
      by_cases ip : i = p
      · rw [if_pos ip, ip]
      · rw [if_neg ip, fp i ip]
    · rw [sU_o ac, f a a1 a2 a3 ac]
  | m + 1, v, acc, σ, hv, hs, f, f23, fp, e => by
    obtain ⟨h5, c8, n20, e5, hk, e18, hh, e15, hr⟩ := id hX
    have vv := nI_v (n := v) (by omega)
    refine S_X5_wears_35 (nI p) x2 x3 x4 x5 x6 (σ1 28 p) acc (nI v) σ (brn (nI_nlt (a := 9) (b := v) (by omega) (by decide)) ⟨vp_in_nI (by omega) (by decide), ?_⟩)
    rw [cl_n p (by omega), nI_1, or0]
    have kk : inR (σ0 11 p) 0 2 := (hk p hp).1
    have ww : inR (nI v) 1 9 := ⟨by omega, by omega⟩
    have lz := lsV2_in kk ww
    have g1 : ∀ a, a ≠ 23 → a ≠ 31 → a ≠ 32 → a ≠ 28 → (sU σ 28 p (nI v)) a = σ1 a := fun a a1 a2 a3 a4 => by rw [sU_o a4, f a a1 a2 a3 a4]
    have nx : ∀ (acc' : Int32) (σ2 : St), FrG (sU σ 28 p (nI v)) σ2 → setF (fun v => allV (upd (laC σ0) p (lsV2 (σ0 11 p) (nI v))) r n (σ0 19) (σ0 20) (σ0 21) c) m (v + 1) acc' = setF (fun v => allV (upd (laC σ0) p (lsV2 (σ0 11 p) (nI v))) r n (σ0 19) (σ0 20) (σ0 21) c) 9 1 0 → VM g (d + 3) M_X5_wears (qI F) 35 [(0, vR 23), (1, vI (nI p)), (2, vI x2), (3, vI x3), (4, vI x4), (5, vI x5), (6, vI x6), (7, vI (σ1 28 p)), (8, vI acc'), (9, vI (nI (v + 1)))] [] σ2 := fun acc' σ2 f4 e' => by
      refine l_wears5 hp σ0 σ1 hX e33 hF m (v + 1) acc' σ2 (by omega) (by omega) (fun a a1 a2 a3 a4 => by rw [f4.1 a a2 a3 a1, g1 a a1 a2 a3 a4]) (fun j hj => by rw [f4.2 j hj, sU_o (by decide), f23 j hj]) (fun i hi => ?_) e'
      rw [f4.1 28 (by decide) (by decide) (by decide), sU_s]
      simp only [upd]
      rw [if_neg hi, fp i hi]
    rw [setF] at e
    refine m_areSo5 (la := upd (laC σ0) p (lsV2 (σ0 11 p) (nI v))) (r := r) (n := n) (rt := σ0 19) (rh := σ0 20) (rf := σ0 21) (c := c) h5 c8 n20 hr (fun z hz => (hh z hz).1) ⟨by rw [sU_o (by decide), f23 18 (by decide), e18], fun z hz => ?_⟩ (by rw [sU_o (by decide), f23 15 (by decide), e15]) (fun v hv => by rw [g1 33 (by decide) (by decide) (by decide) (by decide)]; exact e33 v hv) (by rw [sU_o (by decide), f23 5 (by decide), e5]) (fun i hi => ?_) (la_up (la_in (fun i hi => ⟨(hk i hi).1, (hk i hi).2.1⟩)) ⟨by omega, lz.2⟩) (fun b σ2 f4 => b1p (nx _ σ2 f4 ?_)) (fun b σ2 f4 => b0p (nx _ σ2 f4 ?_))
    · rw [g1 34 (by decide) (by decide) (by decide) (by decide), g1 35 (by decide) (by decide) (by decide) (by decide), g1 36 (by decide) (by decide) (by decide) (by decide)]
      exact (hh z hz).2
    · rw [g1 27 (by decide) (by decide) (by decide) (by decide), sU_s]
      simp only [upd]
      by_cases ip : i = p
      · rw [if_pos ip, if_pos ip, ip, (hk p hp).2.2.1]
      · rw [if_neg ip, if_neg ip, fp i ip, (hk i hi).2.2.1, (hk i hi).2.2.2]
    · rw [if_pos b] at e; exact e
    · rw [if_neg (by rw [b]; decide), or0] at e; exact e
theorem st_wears (p x lane i n : Int32) (hR : Rel σ) : Dbl g (d + 5) M_X4_wears M_X5_wears [vI p, vI x, vI lane, vI i, vI n] σ := by
  obtain ⟨h, c, hC, hN⟩ := hR.2.1
  obtain ⟨h5, e10, e23, hc⟩ := id hC
  have one : ∀ (r : Int32), ¬ r = 0 → ntV r = 0 → (inR p 0 ((h : Int) - 1) → ctV σ h x lane i n 1 = r) → (¬ inR p 0 ((h : Int) - 1) → r = -1) → (∀ τ, FrC σ τ → τ 0 7 = 0 → ME g (d + 5) M_X5_wears [vR 23, vI p, vI x, vI lane, vI i, vI n] τ (qI fun r2 σ2 => r = r2 ∧ Rel σ2)) → ME g (d + 5) M_X4_wears [vR 0, vI p, vI x, vI lane, vI i, vI n] σ (qI fun r1 σ1 => ME g (d + 5) M_X5_wears [vR 23, vI p, vI x, vI lane, vI i, vI n] σ1 (qI fun r2 σ2 => r1 = r2 ∧ Rel σ2)) := by
    intro r ne nt e1 e2 md
    refine ME_of (S_X4_wears_0 p x lane i n σ (ME_of (S_X4_troubleOfOne_0 p x lane i n σ ?_)))
    by_cases hp : inR p 0 ((h : Int) - 1)
    · refine has_t h5 e10 hp (b1p (m_tv hR h5 e10 (fun σ1 f1 _ => m_noted ?_)))
      rw [e1 hp]
      exact brn ne (md _ (FrT_nt f1) (by rw [sU_s]; simp [upd, nt]))
    · refine has_f h5 e10 hp (b0p (m_noted ?_))
      have := e2 hp
      subst this
      exact brn ne (md _ (FrT_nt (FrT.rf σ)) (by rw [sU_s]; simp [upd, nt]))
  have g5 : ∀ τ, FrC σ τ → (sU τ 23 0 0) 23 5 = nI h := fun τ f => by
    rw [sU_s]
    show upd (τ 23) 0 0 5 = _
    simp only [upd]
    rw [if_neg (by decide), f.1 23 (by decide) (by decide) (by decide) (by decide) (by decide) (by decide), e23]
  by_cases hp : inR p 0 ((h : Int) - 1)
  · by_cases hx : inR x 0 3
    · by_cases hln : inR lane 0 2 ∧ inR n 0 20
      · obtain ⟨k, rfl, hk3, -⟩ := toN hx
        have hk : k < 4 := by omega
        have hcl : (nI k).toNatClampNeg = k := cl_n k (by omega)
        have ect : ctV σ h (nI k) lane i n 1 = tvV σ h k lane i n := by rw [ctV, if_neg (not_not_intro hx), if_neg (by decide), hcl]
        have hin : vp_in p 5 := inR_in hp (by omega)
        have md : ∀ (τ : St) (G : Int32 → St → Prop), FrC σ τ → (tvV σ h k lane i n ≠ 0 → ∀ σ', FrX τ σ' → σ' 23 0 = ntV (tvV σ h k lane i n) → G (tvV σ h k lane i n) σ') → (tvV σ h k lane i n = 0 → ∀ σ1, FrL (sU τ 23 0 0) σ1 → σ1 23 0 = 0 → σ1 23 15 = n → (∀ v, v < n.toNatClampNeg → σ1 33 v = σ (6 + k) (i.toNatClampNeg + v)) → VM g (d + 5) M_X5_wears (qI G) 35 [(0, vR 23), (1, vI p), (2, vI (nI k)), (3, vI lane), (4, vI i), (5, vI n), (6, vI 0), (7, vI (σ1 28 p.toNatClampNeg)), (8, vI 0), (9, vI 1)] [] σ1) → ME g (d + 5) M_X5_wears [vR 23, vI p, vI (nI k), vI lane, vI i, vI n] τ (qI G) := by
          intro τ G f K1 K2
          have gg : ∀ a, a ≠ 0 → a ≠ 14 → a ≠ 15 → a ≠ 16 → a ≠ 17 → a ≠ 22 → a ≠ 23 → (sU τ 23 0 0) a = σ a := fun a a0 a14 a15 a16 a17 a22 a23 => by rw [sU_o a23, f.1 a a0 a14 a15 a16 a17 a22]
          have hS : RS (sU τ 23 0 0) := RS_fr hR.1 (fun a ha => gg a (by omega) (by omega) (by omega) (by omega) (by omega) (by omega) (by omega))
          have etv : tvV (sU τ 23 0 0) h k lane i n = tvV σ h k lane i n := by
            unfold tvV
            rw [gg (2 + k) (by omega) (by omega) (by omega) (by omega) (by omega) (by omega) (by omega), gg (6 + k) (by omega) (by omega) (by omega) (by omega) (by omega) (by omega) (by omega)]
          refine ME_of (S_X5_wears_0 p (nI k) lane i n τ (ME_of (S_X5_lay_0 p (nI k) lane i n τ (isHead_t h5 (g5 τ f) hp (b1p (isSheet5_t hx (b1n (m_isRow (fun _ _ => b1p ?_) (fun q => absurd hln q)))))))))
          refine m_layVisits hk hS h5 hln.1 hln.2 (g5 τ f) rfl (fun σ1 f1 q0 q1 => ?_)
          rw [etv] at q0 q1 ⊢
          by_cases e0 : tvV σ h k lane i n = 0
          · rw [e0]
            rw [e0] at q0
            obtain ⟨q2, q3⟩ := q1 e0
            exact brt rfl ⟨hin, K2 e0 σ1 f1 q0 q2 (fun v hv => by rw [q3 v hv, gg (6 + k) (by omega) (by omega) (by omega) (by omega) (by omega) (by omega) (by omega)])⟩
          · exact brn e0 (K1 e0 σ1 (FrX_L f1) q0)
        refine ME_of (S_X4_wears_0 p (nI k) lane i n σ (ME_of (S_X4_troubleOfOne_0 p (nI k) lane i n σ (has_t h5 e10 hp (b1p (m_tv hR h5 e10 (fun σ1 f1 q1 => m_noted ?_)))))))
        rw [ect] at q1 ⊢
        by_cases e0 : tvV σ h k lane i n = 0
        · rw [e0]
          obtain ⟨q2, q3⟩ := q1 e0
          obtain ⟨n', rfl, hn3, nb⟩ := toN hln.2
          have vn := nI_v nb
          obtain ⟨p', rfl, hp3, pb⟩ := toN hp
          have hpl : p' < h := by omega
          obtain ⟨hX, rv⟩ := Cx_of (z := ntV 0) (x := nI k) hC hN f1 e0 nb q2
          rw [cl_n n' nb, hcl] at q3
          refine brt rfl (l_wears hpl _ hX (fun v hv => by rw [sU_o (by decide), q3 v hv]; exact rv v hv) (fun σ2 f2 => ?_) 9 1 0 _ rfl (Nat.le_refl _) (fun _ _ _ _ _ => rfl) rfl)
          obtain ⟨fc2, z7⟩ := FrC_w f1 (fun a a1 a2 a3 a4 _ => f2 a a1 a2 a3 a4)
          refine md σ2 _ fc2 (fun q => absurd e0 q) (fun _ σ3 f3 q0 q15 q33 => ?_)
          have hM := Mx_of (τ0 := σ) hC hN fc2 f3 e0 nb q15
          rw [cl_n n' nb] at q33
          have eP : laC (sU σ1 0 7 (ntV 0)) = laC σ := by
            show (fun i => lsV2 ((sU σ1 0 7 (ntV 0)) 11 i) ((sU σ1 0 7 (ntV 0)) 12 i)) = _
            rw [same_c f1 (by decide) (by decide) (by decide) (by decide) (by decide) (by decide) (by decide), same_c f1 (by decide) (by decide) (by decide) (by decide) (by decide) (by decide) (by decide)]
          rw [eP, same_c (k := 19) f1 (by decide) (by decide) (by decide) (by decide) (by decide) (by decide) (by decide), same_c (k := 20) f1 (by decide) (by decide) (by decide) (by decide) (by decide) (by decide) (by decide), same_c (k := 21) f1 (by decide) (by decide) (by decide) (by decide) (by decide) (by decide) (by decide), same_c (k := 11) f1 (by decide) (by decide) (by decide) (by decide) (by decide) (by decide) (by decide), cl_n p' pb]
          refine l_wears5 hpl σ σ3 hM (fun v hv => by rw [q33 v hv]; exact rv v hv) (fun σ4 f4 f5 => ⟨rfl, Rel_fin hR fc2 (FrX_w (FrX_L f3) (fun a a1 a2 a3 _ => f4 a a1 a2 a3) f5) z7 ?_⟩) 9 1 0 _ rfl (Nat.le_refl _) (fun _ _ _ _ _ => rfl) (fun _ _ => rfl) (fun _ _ => rfl) rfl
          rw [f5 0 (by decide), q0]
          rfl
        · refine brn e0 (md _ _ (FrT_nt f1) (fun _ σ' fx q => ⟨rfl, Rel_fin hR (FrT_nt f1) fx ?_ q⟩) (fun q => absurd q e0))
          rw [sU_s]
          simp [upd]
      · refine one (-2) (by decide) (by decide) (fun _ => ?_) (fun q => absurd hp q) (fun τ f q => ?_)
        · rw [ctV, if_neg (not_not_intro hx), if_neg (by decide), tvV, if_pos (by omega)]
        · exact ME_of (S_X5_wears_0 p x lane i n τ (ME_of (S_X5_lay_0 p x lane i n τ (isHead_t h5 (g5 τ f) hp (b1p (isSheet5_t hx (b1n (m_isRow (fun a b => absurd ⟨a, b⟩ hln) (fun _ => b0p (brn (by decide) ⟨rfl, Rel_fin hR f FrX_0 q rfl⟩))))))))))
    · refine one (-1) (by decide) (by decide) (fun _ => by rw [ctV, if_pos hx]) (fun q => absurd hp q) (fun τ f q => ?_)
      exact ME_of (S_X5_wears_0 p x lane i n τ (ME_of (S_X5_lay_0 p x lane i n τ (isHead_t h5 (g5 τ f) hp (b1p (isSheet5_f hx (b0n (brn (by decide) ⟨rfl, Rel_fin hR f FrX_0 q rfl⟩))))))))
  · refine one (-1) (by decide) (by decide) (fun q => absurd q hp) (fun _ => rfl) (fun τ f q => ?_)
    exact ME_of (S_X5_wears_0 p x lane i n τ (ME_of (S_X5_lay_0 p x lane i n τ (isHead_f h5 (g5 τ f) hp (b0p (brn (by decide) ⟨rfl, Rel_fin hR f FrX_0 q rfl⟩))))))
end KINDS
