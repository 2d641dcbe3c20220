section COPYOP
variable {g : GG} {d : Nat} {σ : St}
/-- the reference's copying, upwards -/
theorem l_copyU {F : Int32 → St → Prop} {k i o j n : Nat} {x6 : Int32} (σ0 : St) (hk : 60 * k + i + n ≤ 240) (ho : 60 * o + j + n ≤ 240) (hd : ∀ q, q < n → ¬ (60 * o + j ≤ 60 * k + i + q ∧ 60 * k + i + q < 60 * o + j + q))
    (hF : ∀ σ' : St, (∀ c, c ≠ 26 → σ' c = σ0 c) → (σ' 26 = va_cpy (σ0 26) (σ0 26) (60 * k + i) (60 * o + j) n) → F (nI n) σ') : ∀ (m q : Nat) (σ : St), q + m = n → (∀ c, c ≠ 26 → σ c = σ0 c) → σ 26 = va_cpy (σ0 26) (σ0 26) (60 * k + i) (60 * o + j) q → VM g (d + 1) M_X5_copy (qI F) 166 [(0, vR 23), (1, vI (nI k)), (2, vI (nI i)), (3, vI (nI o)), (4, vI (nI j)), (5, vI (nI n)), (6, vI x6), (7, vI 0), (8, vI (nI q))] [] σ
  | 0, q, σ, hq, h1, h2 => S_X5_copy_166 (nI k) (nI i) (nI o) (nI j) (nI n) x6 0 (nI q) σ (brt (nI_le (by omega) (by omega)) (hF σ h1 (by rw [h2, show q = n by omega])))
  | m + 1, q, σ, hq, h1, h2 => by
    refine S_X5_copy_166 (nI k) (nI i) (nI o) (nI j) (nI n) x6 0 (nI q) σ (brn (nI_ge (by omega) (by omega)) (brt rfl ?_))
    rw [m60, m60, nI_add, nI_add, cl_n _ (by omega), cl_n _ (by omega), nI_1]
    refine ⟨vp_in_nI (by omega) (by decide), vp_in_nI (by omega) (by decide), l_copyU σ0 hk ho hd hF m (q + 1) _ (by omega) (fun c hc => by rw [sU_o hc, h1 c hc]) ?_⟩
    rw [sU_s, h2]
    funext p
    have hq2 := hd q (by omega)
    simp only [upd, va_cpy]
    by_cases e : p = 60 * o + j + q
    · rw [if_pos e, if_neg hq2, if_pos (by omega)]
      congr 1
      omega
    · rw [if_neg e]
      by_cases e2 : 60 * o + j ≤ p ∧ p < 60 * o + j + q
      · rw [if_pos e2, if_pos (by omega)]
      · rw [if_neg e2, if_neg (by omega)]
/-- .. downwards -/
theorem l_copyD {F : Int32 → St → Prop} {k i o j n : Nat} {x6 : Int32} (σ0 : St) (hk : 60 * k + i + n ≤ 240) (ho : 60 * o + j + n ≤ 240) (hd : ∀ q, q < n → ¬ (60 * o + j + (n - q) ≤ 60 * k + i + (n - 1 - q) ∧ 60 * k + i + (n - 1 - q) < 60 * o + j + n))
    (hF : ∀ σ' : St, (∀ c, c ≠ 26 → σ' c = σ0 c) → (σ' 26 = va_cpy (σ0 26) (σ0 26) (60 * k + i) (60 * o + j) n) → F (nI n) σ') : ∀ (m q : Nat) (σ : St), q + m = n → (∀ c, c ≠ 26 → σ c = σ0 c) → σ 26 = va_cpy (σ0 26) (σ0 26) (60 * k + i + (n - q)) (60 * o + j + (n - q)) q → VM g (d + 1) M_X5_copy (qI F) 166 [(0, vR 23), (1, vI (nI k)), (2, vI (nI i)), (3, vI (nI o)), (4, vI (nI j)), (5, vI (nI n)), (6, vI x6), (7, vI 1), (8, vI (nI q))] [] σ
  | 0, q, σ, hq, h1, h2 => S_X5_copy_166 (nI k) (nI i) (nI o) (nI j) (nI n) x6 1 (nI q) σ (brt (nI_le (by omega) (by omega)) (hF σ h1 (by rw [h2, show q = n by omega, Nat.sub_self, Nat.add_zero, Nat.add_zero])))
  | m + 1, q, σ, hq, h1, h2 => by
    refine S_X5_copy_166 (nI k) (nI i) (nI o) (nI j) (nI n) x6 1 (nI q) σ (brn (nI_ge (by omega) (by omega)) (brn (by decide) ?_))
    have e1 : nI n - 1 - nI q = nI (n - 1 - q) := by
      show nI n - nI 1 - nI q = _
      rw [pk_sub (by omega), pk_sub (by omega)]
    rw [m60, m60, e1, nI_add, nI_add, cl_n _ (by omega), cl_n _ (by omega), nI_1]
    refine ⟨vp_in_nI (by omega) (by decide), vp_in_nI (by omega) (by decide), l_copyD σ0 hk ho hd hF m (q + 1) _ (by omega) (fun c hc => by rw [sU_o hc, h1 c hc]) ?_⟩
    rw [sU_s, h2]
    funext p
    have hq2 := hd q (by omega)
    simp only [upd, va_cpy]
    by_cases e : p = 60 * o + j + (n - 1 - q)
    · rw [if_pos e, if_neg (by omega), if_pos (by omega)]
      congr 1
      omega
    · rw [if_neg e]
      by_cases e2 : 60 * o + j + (n - q) ≤ p ∧ p < 60 * o + j + (n - q) + q
      · rw [if_pos e2, if_pos (by omega)]
        congr 1
        omega
      · rw [if_neg e2, if_neg (by omega)]
def tyV (σ : St) (x i y j n : Int32) : Int32 := if ¬ inR x 0 3 ∨ ¬ inR y 0 3 then -1 else if (σ (2 + x.toNatClampNeg) 2).toInt < 0 ∨ (σ (2 + y.toNatClampNeg) 2).toInt < 0 then -11 else if ¬ σ (2 + x.toNatClampNeg) 1 = σ (2 + y.toNatClampNeg) 1 then -12 else if ¬ hasC (σ (2 + x.toNatClampNeg) 2) i n ∨ ¬ hasC (σ (2 + y.toNatClampNeg) 2) j n then -13 else 0
theorem m_troubleOfCopy {F : Int32 → St → Prop} {x i y j n : Int32} (h : F (tyV σ x i y j n) σ) : ME g (d + 1) M_X4_troubleOfCopy [vR 0, vI x, vI i, vI y, vI j, vI n] σ (qI F) := by
  unfold tyV at h
  refine ME_of (S_X4_troubleOfCopy_0 x i y j n σ (m_isSheet (fun a => b1p (m_isSheet (fun b => b1n ⟨inR_in a (by decide), m_isNothing (tcl_lt a (by decide)) (fun c => b1n ?_) (fun c => b0n ⟨inR_in b (by decide), m_isNothing (tcl_lt b (by decide)) (fun e => b1p ?_) (fun e => b0p ⟨fun f => m_hasCells (tcl_lt a (by decide)) (fun u => b1p (m_hasCells (tcl_lt b (by decide)) (fun v => b1p ?_) (fun v => b0p ?_))) (fun u => b0p ?_), fun f => ?_⟩)⟩)⟩) (fun b => b0n ?_))) (fun a => b0p ?_)))
  · rw [if_neg (by omega), if_pos (Or.inl c)] at h; exact h
  · rw [if_neg (by omega), if_pos (Or.inr e)] at h; exact h
  · rw [if_neg (by omega), if_neg (by omega), if_neg (not_not_intro f), if_neg (fun q => q.elim (fun w => w u) (fun w => w v))] at h; exact h
  · rw [if_neg (by omega), if_neg (by omega), if_neg (not_not_intro f), if_pos (Or.inr v)] at h; exact h
  · rw [if_neg (by omega), if_neg (by omega), if_neg (not_not_intro f), if_pos (Or.inl u)] at h; exact h
  · rw [if_neg (by omega), if_neg (by omega), if_pos f] at h; exact h
  · rw [if_pos (Or.inr b)] at h; exact h
  · rw [if_pos (Or.inl a)] at h; exact h
theorem Rel_copy {k i o j n : Nat} {z y : Int32} {σ' : St} (hR : Rel σ) (hk : k < 4) (ho : o < 4) (hi : i + n ≤ 60) (hj : j + n ≤ 60) (hz : z = y) (e : ∀ c, c ≠ 26 → σ' c = (sU (fun a => if a = 6 + o then va_cpy ((sU σ 0 7 z) (6 + k)) ((sU σ 0 7 z) (6 + o)) i j n else (sU σ 0 7 z) a) 23 0 y) c) (e26 : σ' 26 = va_cpy (σ 26) (σ 26) (60 * k + i) (60 * o + j) n) : Rel σ' := by
  have key : ∀ a, a ≠ 0 → a ≠ 6 + o → a ≠ 23 → a ≠ 26 → σ' a = σ a := fun a h1 h2 h3 h4 => by rw [e a h4, sU_o h3, if_neg h2, sU_o h1]
  refine Rel_sh hR (RS_put hR.1 ho (fun a h1 h2 h3 => key a (by omega) h3 (by omega) (by omega)) (fun q hq => by rw [key 24 (by decide) (by omega) (by decide) (by decide)]) (fun q hq => by rw [key 25 (by decide) (by omega) (by decide) (by decide)]) (fun q p h1 h2 h3 => ?_) ?_ (fun p hp => ?_)) (fun a h1 h2 h3 h4 h5 => key a (by omega) (by omega) h2 h5) ?_ ?_ ?_ ?_ ?_
  · rw [e26]
    simp only [va_cpy]
    rw [if_neg (by omega)]
  · have := hR.1.1 o ho
    unfold RS1 at *
    rw [key (2 + o) (by omega) (by omega) (by omega) (by omega), key 24 (by decide) (by omega) (by decide) (by decide), key 25 (by decide) (by omega) (by decide) (by decide)]
    exact this
  · rw [e _ (by omega), sU_o (by omega), if_pos rfl, e26, sU_o (by omega), sU_o (by omega)]
    simp only [va_cpy]
    by_cases q : j ≤ p ∧ p < j + n
    · rw [if_pos q, if_pos (by omega), hR.1.2 k _ hk (by omega)]
      congr 1
      omega
    · rw [if_neg q, if_neg (by omega), hR.1.2 o p ho hp]
  · rw [e 0 (by decide), sU_o (by decide), if_neg (by omega), sU_s]; rfl
  · rw [e 23 (by decide), sU_s]; show (if 23 = 6 + o then _ else _ : Nat → Int32) 1 = _; rw [if_neg (by omega), sU_o (by decide)]
  · rw [e 23 (by decide), sU_s]; show (if 23 = 6 + o then _ else _ : Nat → Int32) 5 = _; rw [if_neg (by omega), sU_o (by decide)]
  · rw [e 23 (by decide), sU_s]; show (if 23 = 6 + o then _ else _ : Nat → Int32) 18 = _; rw [if_neg (by omega), sU_o (by decide)]
  · rw [e 0 (by decide), sU_o (by decide), if_neg (by omega), sU_s, e 23 (by decide), sU_s]; exact hz
theorem st_copy (x i y j n : Int32) (hR : Rel σ) : Dbl g (d + 2) M_X4_copy M_X5_copy [vI x, vI i, vI y, vI j, vI n] σ := by
  refine ME_of (S_X4_copy_0 x i y j n σ (m_troubleOfCopy (m_noted ?_)))
  unfold tyV
  by_cases hx : inR x 0 3
  · by_cases hy : inR y 0 3
    · rw [if_neg (by omega)]
      obtain ⟨k, rfl, hk3, -⟩ := toN hx
      obtain ⟨o, rfl, ho3, -⟩ := toN hy
      have hk : k < 4 := by omega
      have ho : o < 4 := by omega
      have hin : vp_in (nI k) 4 := inR_in hx (by decide)
      have hin2 : vp_in (nI o) 4 := inR_in hy (by decide)
      have hcl : (nI k).toNatClampNeg = k := cl_n k (by omega)
      have hcl2 : (nI o).toNatClampNeg = o := cl_n o (by omega)
      rw [hcl, hcl2]
      have hs := hR.1.1 k hk
      have hs2 := hR.1.1 o ho
      unfold RS1 at hs hs2
      have fl : ∀ (c : Int32), Rel (sU (sU (sU σ 0 7 c) 23 0 0) 23 0 c) := fun c => Rel_note hR (fun a h0 h23 => by repeat rw [sU_o (by omega)]) rfl rfl rfl rfl rfl
      rcases hs with ⟨s1, s2⟩ | ⟨s1, s2, s3, s4⟩
      · rw [if_pos (Or.inl (by rw [s1]; decide))]
        refine brn (by decide) (ME_of (S_X5_copy_0 (nI k) i (nI o) j n _ (isSheet5_t hx (b1p (isSheet5_t hy (b1n ⟨hin, ?_⟩))))))
        rw [hcl]
        exact brt s2 (m_fails ⟨rfl, fl 1⟩)
      · have n9 : ¬ σ 24 k = -9 := by rw [s4, fa_eq, tm9]; omega
        rcases hs2 with ⟨u1, u2⟩ | ⟨u1, u2, u3, u4⟩
        · rw [if_pos (Or.inr (by rw [u1]; decide))]
          refine brn (by decide) (ME_of (S_X5_copy_0 (nI k) i (nI o) j n _ (isSheet5_t hx (b1p (isSheet5_t hy (b1n ⟨hin, ?_⟩))))))
          rw [hcl, hcl2]
          exact brn n9 ⟨hin2, brt' u2 (m_fails ⟨rfl, fl 1⟩)⟩
        · have n92 : ¬ σ 24 o = -9 := by rw [u4, fa_eq, tm9]; omega
          rw [if_neg (by omega)]
          by_cases hl : σ (2 + k) 1 = σ (2 + o) 1
          · rw [if_neg (not_not_intro hl)]
            have hl2 : σ 24 k = σ 24 o := by rw [s4, u4, hl]
            have t1 := tS (σ (2 + k) 2) i
            have t2 := tS (σ (2 + o) 2) j
            have r1 := fb_rng (σ (2 + k) 2 - i)
            have r2 := fb_rng (σ (2 + o) 2 - j)
            have r3 := fb_rng i
            have r4 := fb_rng j
            have r5 := fb_rng n
            have z0 : (0 : Int32).toInt = 0 := rfl
            by_cases hh : ¬ hasC (σ (2 + k) 2) i n ∨ ¬ hasC (σ (2 + o) 2) j n
            · rw [if_pos hh]
              refine brn (by decide) (ME_of (S_X5_copy_0 (nI k) i (nI o) j n _ (isSheet5_t hx (b1p (isSheet5_t hy (b1n ⟨hin, ?_⟩))))))
              rw [hcl, hcl2]
              have e25k : sU (sU σ 0 7 (ntV (-13))) 23 0 0 25 k = σ (2 + k) 2 := s2
              have e25o : sU (sU σ 0 7 (ntV (-13))) 23 0 0 25 o = σ (2 + o) 2 := u2
              rw [e25k, e25o]
              have ff : ME g (d + 1) M_X5_fails [vR 23, vI 3] (sU (sU σ 0 7 (ntV (-13))) 23 0 0) (qI fun r2 σ2 => -13 = r2 ∧ Rel σ2) := m_fails ⟨rfl, fl 3⟩
              refine brn n9 ⟨hin2, brn' n92 (brt hl2 ⟨fun _ => ff, fun a1 => ⟨fun _ => ff, fun a2 => ⟨fun _ => ff, fun a3 => ⟨fun _ => ff, fun a4 => ⟨fun _ => ff, fun a5 => ⟨fun _ => ff, fun a6 => ⟨fun a7 => ?_, fun _ => ff⟩⟩⟩⟩⟩⟩⟩)⟩
              exfalso
              clear ff fl
              simp only [fa_lt, fa_le, z0] at a1 a2 a3 a4 a5 a6 a7
              omega
            · rw [if_neg hh]
              have h1 : hasC (σ (2 + k) 2) i n := Decidable.not_not.mp (fun q => hh (Or.inl q))
              have h2 : hasC (σ (2 + o) 2) j n := Decidable.not_not.mp (fun q => hh (Or.inr q))
              obtain ⟨i', rfl, hi3, ib⟩ := toN (x := i) (hi := 60) ⟨h1.1, by omega⟩
              obtain ⟨j', rfl, hj3, jb⟩ := toN (x := j) (hi := 60) ⟨h2.1, by omega⟩
              obtain ⟨n', rfl, hn3, nb⟩ := toN (x := n) (hi := 60) ⟨h1.2.1, by omega⟩
              have vi := nI_v ib
              have vj := nI_v jb
              have vn := nI_v nb
              have ik : i' + n' ≤ 60 := by omega
              have jo : j' + n' ≤ 60 := by omega
              refine brt rfl ⟨hin, hin2, by rw [fa_lt, z0]; omega, by rw [fa_lt, z0]; omega, by rw [fa_lt, z0]; omega, ?_⟩
              rw [cl_n i' ib, cl_n j' jb, cl_n n' nb]
              refine ⟨ik, jo, ME_of (S_X5_copy_0 (nI k) (nI i') (nI o) (nI j') (nI n') _ (isSheet5_t hx (b1p (isSheet5_t hy (b1n ⟨hin, ?_⟩)))))⟩
              rw [hcl, hcl2]
              have g24 : ∀ q, (sU (fun a => if a = 6 + o then va_cpy ((sU σ 0 7 (ntV 0)) (6 + k)) ((sU σ 0 7 (ntV 0)) (6 + o)) i' j' n' else (sU σ 0 7 (ntV 0)) a) 23 0 0) 24 q = σ 24 q := fun q => by rw [sU_o (by decide), if_neg (by omega), sU_o (by decide)]
              have g25 : ∀ q, (sU (fun a => if a = 6 + o then va_cpy ((sU σ 0 7 (ntV 0)) (6 + k)) ((sU σ 0 7 (ntV 0)) (6 + o)) i' j' n' else (sU σ 0 7 (ntV 0)) a) 23 0 0) 25 q = σ 25 q := fun q => by rw [sU_o (by decide), if_neg (by omega), sU_o (by decide)]
              have g26 : (sU (fun a => if a = 6 + o then va_cpy ((sU σ 0 7 (ntV 0)) (6 + k)) ((sU σ 0 7 (ntV 0)) (6 + o)) i' j' n' else (sU σ 0 7 (ntV 0)) a) 23 0 0) 26 = σ 26 := by rw [sU_o (by decide), if_neg (by omega), sU_o (by decide)]
              rw [g24, g24, g25, g25, s2, u2]
              refine brn n9 ⟨hin2, brn' n92 (brt hl2 (brn (by rw [fa_lt, z0]; omega) (brn (by rw [fa_lt, z0]; omega) (brn (by rw [fa_lt, z0]; omega) (brn (by rw [fa_lt]; omega) (brn (by rw [fa_lt]; omega) (brn (by rw [fa_lt]; omega) (brt (by rw [fa_le]; omega) ⟨fun q => ?_, fun q => ?_⟩))))))))⟩
              · rw [fa_le] at q
                refine l_copyU _ (by omega) (by omega) (fun w hw => ?_) (fun σ' f1 f2 => ⟨rfl, Rel_copy hR hk ho ik jo rfl f1 (by rw [f2, g26])⟩) n' 0 _ (by omega) (fun _ _ => rfl) ?_
                · by_cases ek : k = o
                  · subst ek; omega
                  · omega
                · funext p
                  simp only [va_cpy]
                  rw [if_neg (by omega)]
              · rw [fa_le] at q
                refine l_copyD _ (by omega) (by omega) (fun w hw => ?_) (fun σ' f1 f2 => ⟨rfl, Rel_copy hR hk ho ik jo rfl f1 (by rw [f2, g26])⟩) n' 0 _ (by omega) (fun _ _ => rfl) ?_
                · by_cases ek : k = o
                  · subst ek; omega
                  · omega
                · funext p
                  simp only [va_cpy]
                  rw [if_neg (by omega)]
          · rw [if_pos hl]
            refine brn (by decide) (ME_of (S_X5_copy_0 (nI k) i (nI o) j n _ (isSheet5_t hx (b1p (isSheet5_t hy (b1n ⟨hin, ?_⟩))))))
            rw [hcl, hcl2]
            exact brn n9 ⟨hin2, brn' n92 (brn (by show ¬ σ 24 k = σ 24 o; rw [s4, u4]; exact hl) (m_fails ⟨rfl, fl 2⟩))⟩
    · rw [if_pos (Or.inr hy)]
      exact brn (by decide) (ME_of (S_X5_copy_0 x i y j n _ (isSheet5_t hx (b1p (isSheet5_f hy (b0n ⟨rfl, Rel_n0 hR rfl⟩))))))
  · rw [if_pos (Or.inl hx)]
    exact brn (by decide) (ME_of (S_X5_copy_0 x i y j n _ (isSheet5_f hx (b0p ⟨rfl, Rel_n0 hR rfl⟩))))
end COPYOP
