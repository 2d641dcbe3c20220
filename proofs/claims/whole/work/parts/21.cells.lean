section CELLOPS
variable {g : GG} {d : Nat} {σ : St}
def cutV (v lane : Int32) : Int32 := if lane = 0 then v.toInt8.toInt32 else if lane = 1 then v.toInt16.toInt32 else v
theorem m_cut {F : Int32 → St → Prop} {v lane : Int32} (h : F (cutV v lane) σ) : ME g d M_X4_cut [vI v, vI lane] σ (qI F) := by
  refine ME_of (S_X4_cut_0 v lane σ ⟨fun a => ⟨fun b => ?_, fun b => ?_⟩, fun a => ?_⟩)
  · rw [cutV, if_neg a, if_neg b] at h; exact h
  · rw [cutV, if_neg a, if_pos b] at h; exact h
  · rw [cutV, if_pos a] at h; exact h
def tpV (σ : St) (x i : Int32) : Int32 := if ¬ inR x 0 3 then -1 else if (σ (2 + x.toNatClampNeg) 2).toInt < 0 then -11 else if ¬ hasC (σ (2 + x.toNatClampNeg) 2) i 1 then -13 else 0
theorem m_troubleOfPut {F : Int32 → St → Prop} {x i : Int32} (h : F (tpV σ x i) σ) : ME g (d + 1) M_X4_troubleOfPut [vR 0, vI x, vI i] σ (qI F) := by
  refine ME_of (S_X4_troubleOfPut_0 x i σ (m_isSheet (fun a => b1n ⟨inR_in a (by decide), m_isNothing (tcl_lt a (by decide)) (fun b => b1p ?_) (fun b => b0p (m_hasCells (tcl_lt a (by decide)) (fun c => b1p ?_) (fun c => b0p ?_)))⟩) (fun a => b0n ?_)))
  · rw [tpV, if_neg (not_not_intro a), if_pos b] at h; exact h
  · rw [tpV, if_neg (not_not_intro a), if_neg (by omega), if_neg (not_not_intro c)] at h; exact h
  · rw [tpV, if_neg (not_not_intro a), if_neg (by omega), if_pos c] at h; exact h
  · rw [tpV, if_pos a] at h; exact h
/-- a cell of both sides becomes v -/
theorem Rel_put {k i : Nat} {v z y : Int32} (hR : Rel σ) (hk : k < 4) (hi : i < 60) (hz : z = y) : Rel (sU (sU (sU (sU σ 0 7 z) (6 + k) i v) 23 0 y) 26 (60 * k + i) v) := by
  have key : ∀ a, a ≠ 0 → a ≠ 6 + k → a ≠ 23 → a ≠ 26 → (sU (sU (sU (sU σ 0 7 z) (6 + k) i v) 23 0 y) 26 (60 * k + i) v) a = σ a := fun a h1 h2 h3 h4 => by rw [sU_o h4, sU_o h3, sU_o h2, sU_o h1]
  refine Rel_sh hR (RS_put hR.1 hk (fun a h1 h2 h3 => key a (by omega) h3 (by omega) (by omega)) (fun j hj => by rw [key 24 (by decide) (by omega) (by decide) (by decide)]) (fun j hj => by rw [key 25 (by decide) (by omega) (by decide) (by decide)]) (fun j q h1 h2 h3 => ?_) ?_ (fun q hq => ?_)) (fun a h1 h2 h3 h4 h5 => key a (by omega) (by omega) h2 h5) ?_ ?_ ?_ ?_ ?_
  · rw [sU_s]
    simp only [upd]
    rw [if_neg (by omega), sU_o (by decide), sU_o (by omega), sU_o (by decide)]
  · have := hR.1.1 k hk
    unfold RS1 at *
    rw [key (2 + k) (by omega) (by omega) (by omega) (by omega), key 24 (by decide) (by omega) (by decide) (by decide), key 25 (by decide) (by omega) (by decide) (by decide)]
    exact this
  · rw [sU_o (show 6 + k ≠ 26 by omega), sU_o (show 6 + k ≠ 23 by omega), sU_s, sU_s]
    simp only [upd]
    by_cases e : q = i
    · rw [if_pos e, if_pos (by omega)]
    · rw [if_neg e, if_neg (by omega), sU_o (by omega), sU_o (by decide), sU_o (by omega), sU_o (by decide)]
      exact hR.1.2 k q hk hq
  · rw [sU_o (by decide), sU_o (by decide), sU_o (by omega), sU_s]; rfl
  · rw [sU_o (by decide), sU_s]; show (sU (sU σ 0 7 z) (6 + k) i v) 23 1 = _; rw [sU_o (by omega), sU_o (by decide)]
  · rw [sU_o (by decide), sU_s]; show (sU (sU σ 0 7 z) (6 + k) i v) 23 5 = _; rw [sU_o (by omega), sU_o (by decide)]
  · rw [sU_o (by decide), sU_s]; show (sU (sU σ 0 7 z) (6 + k) i v) 23 18 = _; rw [sU_o (by omega), sU_o (by decide)]
  · rw [sU_o (by decide), sU_o (by decide), sU_o (by omega), sU_s, sU_o (by decide), sU_s]; exact hz
theorem st_put (x i v : Int32) (hR : Rel σ) : Dbl g (d + 2) M_X4_put M_X5_put [vI x, vI i, vI v] σ := by
  refine ME_of (S_X4_put_0 x i v σ (m_troubleOfPut (m_noted ?_)))
  by_cases hx : inR x 0 3
  · obtain ⟨k, rfl, hk3, -⟩ := toN hx
    have hk : k < 4 := by omega
    have hin : vp_in (nI k) 4 := inR_in hx (by decide)
    have hcl : (nI k).toNatClampNeg = k := cl_n k (by omega)
    have hs := hR.1.1 k hk
    unfold RS1 at hs
    rw [tpV, if_neg (not_not_intro hx), hcl]
    rcases hs with ⟨s1, s2⟩ | ⟨s1, s2, s3, s4⟩
    · rw [if_pos (by rw [s1]; decide)]
      refine brn (by decide) (ME_of (S_X5_put_0 (nI k) i v _ (isSheet5_t hx (b1n ⟨hin, ?_⟩))))
      rw [hcl]
      exact brt' s2 (m_fails ⟨rfl, Rel_note hR (fun a h0 h23 => by repeat rw [sU_o (by omega)]) rfl rfl rfl rfl rfl⟩)
    · have n9 : ¬ σ 24 k = -9 := by rw [s4, fa_eq, tm9]; omega
      rw [if_neg (by omega)]
      by_cases hc : hasC (σ (2 + k) 2) i 1
      · have hc1 : 0 ≤ i.toInt ∧ i.toInt + 1 ≤ (σ (2 + k) 2).toInt := ⟨hc.1, hc.2.2⟩
        obtain ⟨i', rfl, hi3, -⟩ := toN (x := i) (hi := 59) ⟨hc1.1, by omega⟩
        have hi60 : i' < 60 := by omega
        have hcli : (nI i').toNatClampNeg = i' := cl_n i' (by omega)
        rw [if_neg (not_not_intro hc)]
        refine brt rfl ⟨hin, m_cut ?_⟩
        rw [hcli, show (sU σ 0 7 (ntV 0)) (2 + k) 1 = σ (2 + k) 1 by rw [sU_o (by omega)]]
        refine ⟨vp_in_nI hi60 (by decide), ME_of (S_X5_put_0 (nI k) (nI i') v _ (isSheet5_t hx (b1n ⟨hin, ?_⟩)))⟩
        rw [hcl, m60, cl_n (60 * k + i') (by omega)]
        have e24 : sU (sU (sU σ 0 7 (ntV 0)) (6 + k) i' (cutV v (σ (2 + k) 1))) 23 0 0 24 k = σ (2 + k) 1 := by rw [sU_o (by decide), sU_o (by omega), sU_o (by decide), s4]
        have e25 : sU (sU (sU σ 0 7 (ntV 0)) (6 + k) i' (cutV v (σ (2 + k) 1))) 23 0 0 25 k = σ (2 + k) 2 := by rw [sU_o (by decide), sU_o (by omega), sU_o (by decide), s2]
        rw [e24, e25]
        rw [s4] at n9
        have hin2 : vp_in (nI (60 * k + i')) 240 := vp_in_nI (by omega) (by decide)
        refine brn' n9 (within_t ?_ (b1n ⟨fun a => ⟨fun b => ⟨hin2, rfl, ?_⟩, fun b => ⟨hin2, rfl, ?_⟩⟩, fun a => ⟨hin2, rfl, ?_⟩⟩))
        · have t := tS (σ (2 + k) 2) 1
          have t2 := fb_rng (σ (2 + k) 2 - 1)
          have t3 : (1 : Int32).toInt = 1 := rfl
          have t4 : (0 : Int32).toInt = 0 := rfl
          omega
        · rw [e24] at a b
          have e := Rel_put (v := cutV v (σ (2 + k) 1)) (z := ntV 0) (y := 0) hR hk hi60 rfl
          rw [cutV, if_neg a, if_neg b] at e ⊢
          exact e
        · rw [e24] at a b
          have e := Rel_put (v := cutV v (σ (2 + k) 1)) (z := ntV 0) (y := 0) hR hk hi60 rfl
          rw [cutV, if_neg a, if_pos b] at e ⊢
          exact e
        · rw [e24] at a
          have e := Rel_put (v := cutV v (σ (2 + k) 1)) (z := ntV 0) (y := 0) hR hk hi60 rfl
          rw [cutV, if_pos a] at e ⊢
          exact e
      · rw [if_pos hc]
        refine brn (by decide) (ME_of (S_X5_put_0 (nI k) i v _ (isSheet5_t hx (b1n ⟨hin, ?_⟩))))
        rw [hcl]
        refine brn' n9 (within_f ?_ (b0n (m_fails ⟨rfl, Rel_note hR (fun a h0 h23 => by repeat rw [sU_o (by omega)]) rfl rfl rfl rfl rfl⟩)))
        show ¬ inR i 0 (σ 25 k - 1).toInt
        have t := tS (σ (2 + k) 2) 1
        have t2 := fb_rng (σ (2 + k) 2 - 1)
        have t3 : (1 : Int32).toInt = 1 := rfl
        rw [s2]
        rintro ⟨q1, q2⟩
        exact hc ⟨q1, by decide, by omega⟩
  · rw [tpV, if_pos hx]
    exact brn (by decide) (ME_of (S_X5_put_0 x i v _ (isSheet5_f hx (b0n ⟨rfl, Rel_n0 hR rfl⟩))))
theorem st_cell (x i lane : Int32) (hR : Rel σ) : DblL g (d + 3) M_X4_cell M_X5_cell [vI x, vI i, vI lane] σ := by
  refine ME_of (S_X4_cell_0 x i lane σ (m_troubleOfCells (m_noted ?_)))
  by_cases hx : inR x 0 3
  · obtain ⟨k, rfl, hk3, -⟩ := toN hx
    have hk : k < 4 := by omega
    have hin : vp_in (nI k) 4 := inR_in hx (by decide)
    have hcl : (nI k).toNatClampNeg = k := cl_n k (by omega)
    have hs := hR.1.1 k hk
    unfold RS1 at hs
    rw [tcV, if_neg (not_not_intro hx), hcl]
    by_cases hl : inR lane 0 2
    · rw [if_neg (not_not_intro hl), fcN]
      rcases hs with ⟨s1, s2⟩ | ⟨s1, s2, s3, s4⟩
      · rw [if_pos (by rw [s1]; decide)]
        refine brn (by decide) (ME_of (S_X5_cell_0 (nI k) i lane _ (isSheet5_t hx (b1p (isSort_t hl (b1n ⟨hin, ?_⟩))))))
        rw [hcl]
        exact brt s2 (brt' s2 (m_lost ⟨rfl, Rel_note hR (fun a h0 h23 => by repeat rw [sU_o (by omega)]) rfl rfl rfl rfl rfl⟩))
      · have n9 : ¬ σ 24 k = -9 := by rw [s4, fa_eq, tm9]; omega
        rw [if_neg (by omega)]
        by_cases hsame : σ (2 + k) 1 = lane
        · rw [if_neg (not_not_intro hsame), if_neg (by decide)]
          by_cases hc : hasC (σ (2 + k) 2) i 1
          · have hc1 : 0 ≤ i.toInt ∧ i.toInt + 1 ≤ (σ (2 + k) 2).toInt := ⟨hc.1, hc.2.2⟩
            obtain ⟨i', rfl, hi3, -⟩ := toN (x := i) (hi := 59) ⟨hc1.1, by omega⟩
            have hi60 : i' < 60 := by omega
            have hcli : (nI i').toNatClampNeg = i' := cl_n i' (by omega)
            rw [if_neg (not_not_intro hc)]
            refine brt rfl ⟨hin, vp_in_nI hi60 (by decide), ME_of (S_X5_cell_0 (nI k) (nI i') lane _ (isSheet5_t hx (b1p (isSort_t hl (b1n ⟨hin, ?_⟩)))))⟩
            rw [hcl]
            refine brn n9 (brt (by show σ 24 k = lane; rw [s4]; exact hsame) (brn' n9 (within_t ?_ (b1n ?_))))
            · show inR (nI i') 0 (σ 25 k - 1).toInt
              have t := tS (σ (2 + k) 2) 1
              have t2 := fb_rng (σ (2 + k) 2 - 1)
              have t3 : (1 : Int32).toInt = 1 := rfl
              rw [s2]
              omega
            · rw [m60, cl_n (60 * k + i') (by omega), hcli]
              refine ⟨vp_in_nI (by omega) (by decide), ?_, Rel_n0 hR rfl⟩
              show (sU σ 0 7 _ (6 + k) i').toInt64 = (σ 26 (60 * k + i')).toInt64
              rw [sU_o (by omega), hR.1.2 k i' hk hi60]
          · rw [if_pos hc]
            refine brn (by decide) (ME_of (S_X5_cell_0 (nI k) i lane _ (isSheet5_t hx (b1p (isSort_t hl (b1n ⟨hin, ?_⟩))))))
            rw [hcl]
            refine brn n9 (brt (by show σ 24 k = lane; rw [s4]; exact hsame) (brn' n9 (within_f ?_ (b0n (m_lost ⟨rfl, Rel_note hR (fun a h0 h23 => by repeat rw [sU_o (by omega)]) rfl rfl rfl rfl rfl⟩)))))
            show ¬ inR i 0 (σ 25 k - 1).toInt
            have t := tS (σ (2 + k) 2) 1
            have t2 := fb_rng (σ (2 + k) 2 - 1)
            have t3 : (1 : Int32).toInt = 1 := rfl
            rw [s2]
            rintro ⟨q1, q2⟩
            exact hc ⟨q1, by decide, by omega⟩
        · rw [if_pos hsame]
          refine brn (by decide) (ME_of (S_X5_cell_0 (nI k) i lane _ (isSheet5_t hx (b1p (isSort_t hl (b1n ⟨hin, ?_⟩))))))
          rw [hcl]
          exact brn n9 (brn (by show ¬ σ 24 k = lane; rw [s4]; exact hsame) (m_lost ⟨rfl, Rel_note hR (fun a h0 h23 => by repeat rw [sU_o (by omega)]) rfl rfl rfl rfl rfl⟩))
    · rw [if_pos hl]
      exact brn (by decide) (ME_of (S_X5_cell_0 (nI k) i lane _ (isSheet5_t hx (b1p (isSort_f hl (b0n ⟨rfl, Rel_n0 hR rfl⟩))))))
  · rw [tcV, if_pos hx]
    exact brn (by decide) (ME_of (S_X5_cell_0 x i lane _ (isSheet5_f hx (b0p ⟨rfl, Rel_n0 hR rfl⟩))))
end CELLOPS
