section HEADS
variable {g : GG} {d : Nat} {σ : St}
theorem Rel_wear {h n p : Nat} {v : Int32} (hR : Rel σ) (hC : RC σ h) (hN : RR σ h n) (hp : p < h) (hv : inR v 1 9) : Rel (sU (sU σ 12 p v) 28 p v) := by
  obtain ⟨h5, c1, c2, hc⟩ := hC
  refine ⟨RS_fr hR.1 (fun a ha => by rw [sU_o (by omega), sU_o (by omega)]), ⟨h, n, ⟨h5, c1, c2, fun q hq => ?_⟩, RR_fr hN rfl rfl (fun a ha => by rw [sU_o (by omega), sU_o (by omega)])⟩, hR.2.2.1, hR.2.2.2⟩
  obtain ⟨e1, e2, e3, e4, e5, e6⟩ := hc q hq
  by_cases hqp : q = p
  · subst hqp
    refine ⟨e1, ?_, e3, e4, ?_, e6⟩
    · simp [sU, upd]
    · simpa [sU, upd] using hv
  · refine ⟨e1, ?_, e3, e4, ?_, e6⟩
    · simp [sU, upd, hqp, e2]
    · simpa [sU, upd, hqp] using e5
theorem Rel_knows {h n p : Nat} {v : Int32} (hR : Rel σ) (hC : RC σ h) (hN : RR σ h n) (hp : p < h) (hv : inR v 0 5) : Rel (sU (sU σ 13 p v) 29 p v) := by
  obtain ⟨h5, c1, c2, hc⟩ := hC
  refine ⟨RS_fr hR.1 (fun a ha => by rw [sU_o (by omega), sU_o (by omega)]), ⟨h, n, ⟨h5, c1, c2, fun q hq => ?_⟩, RR_fr hN rfl rfl (fun a ha => by rw [sU_o (by omega), sU_o (by omega)])⟩, hR.2.2.1, hR.2.2.2⟩
  obtain ⟨e1, e2, e3, e4, e5, e6⟩ := hc q hq
  by_cases hqp : q = p
  · subst hqp
    refine ⟨e1, e2, ?_, e4, e5, ?_⟩
    · simp [sU, upd]
    · simpa [sU, upd] using hv
  · refine ⟨e1, e2, ?_, e4, e5, ?_⟩
    · simp [sU, upd, hqp, e3]
    · simpa [sU, upd, hqp] using e6
theorem st_wear (p v : Int32) (hR : Rel σ) : Dbl g (d + 1) M_X4_wear M_X5_wear [vI p, vI v] σ := by
  obtain ⟨h, n, hC, hN⟩ := hR.2.1
  obtain ⟨h5, c1, c2, hc⟩ := id hC
  by_cases hp : inR p 0 ((h : Int) - 1)
  · have hi : vp_in p 5 := inR_in hp (by omega)
    have hpl : p.toNatClampNeg < h := by rw [tcl]; omega
    obtain ⟨e1, e2, e3, e4, e5, e6⟩ := hc p.toNatClampNeg hpl
    by_cases hv : inR v 1 9
    · exact ME_of (S_X4_wear_0 p v σ (has_t h5 c1 hp (b1n (brn (by ((try simp only [fa_lt, fa_le, fa_eq, Int32.reduceToInt, tm1, tm2, tm3, tm4, tm9, tm10, tm11, tm12, tm13, tm14, tm100] at *); omega)) (brt (by ((try simp only [fa_lt, fa_le, fa_eq, Int32.reduceToInt, tm1, tm2, tm3, tm4, tm9, tm10, tm11, tm12, tm13, tm14, tm100] at *); omega)) ⟨hi, ME_of (S_X5_wear_0 p v _ (isHead_t h5 c2 hp (b1n (within_t hv (b1n ⟨hi, e2, Rel_wear hR hC hN hpl hv⟩)))))⟩)))))
    · have fin : ME g (d + 1) M_X5_wear [vR 23, vI p, vI v] σ (qI fun r2 σ2 => -2 = r2 ∧ Rel σ2) := ME_of (S_X5_wear_0 p v _ (isHead_t h5 c2 hp (b1n (within_f hv (b0n ⟨rfl, hR⟩)))))
      exact ME_of (S_X4_wear_0 p v σ (has_t h5 c1 hp (b1n ⟨fun a => fin, fun a => brn (by clear fin; ((try simp only [fa_lt, fa_le, fa_eq, Int32.reduceToInt, tm1, tm2, tm3, tm4, tm9, tm10, tm11, tm12, tm13, tm14, tm100] at *); omega)) fin⟩)))
  · exact ME_of (S_X4_wear_0 p v σ (has_f h5 c1 hp (b0n (ME_of (S_X5_wear_0 p v σ (isHead_f h5 c2 hp (b0n ⟨rfl, hR⟩)))))))
theorem st_knows (p v : Int32) (hR : Rel σ) : Dbl g (d + 1) M_X4_knows M_X5_knows [vI p, vI v] σ := by
  obtain ⟨h, n, hC, hN⟩ := hR.2.1
  obtain ⟨h5, c1, c2, hc⟩ := id hC
  by_cases hp : inR p 0 ((h : Int) - 1)
  · have hi : vp_in p 5 := inR_in hp (by omega)
    have hpl : p.toNatClampNeg < h := by rw [tcl]; omega
    obtain ⟨e1, e2, e3, e4, e5, e6⟩ := hc p.toNatClampNeg hpl
    by_cases hv : inR v 0 5
    · exact ME_of (S_X4_knows_0 p v σ (has_t h5 c1 hp (b1n (brn (by ((try simp only [fa_lt, fa_le, fa_eq, Int32.reduceToInt, tm1, tm2, tm3, tm4, tm9, tm10, tm11, tm12, tm13, tm14, tm100] at *); omega)) (brt (by ((try simp only [fa_lt, fa_le, fa_eq, Int32.reduceToInt, tm1, tm2, tm3, tm4, tm9, tm10, tm11, tm12, tm13, tm14, tm100] at *); omega)) ⟨hi, ME_of (S_X5_knows_0 p v _ (isHead_t h5 c2 hp (b1n (within_t hv (b1n ⟨hi, e3, Rel_knows hR hC hN hpl hv⟩)))))⟩)))))
    · have fin : ME g (d + 1) M_X5_knows [vR 23, vI p, vI v] σ (qI fun r2 σ2 => -2 = r2 ∧ Rel σ2) := ME_of (S_X5_knows_0 p v _ (isHead_t h5 c2 hp (b1n (within_f hv (b0n ⟨rfl, hR⟩)))))
      exact ME_of (S_X4_knows_0 p v σ (has_t h5 c1 hp (b1n ⟨fun a => fin, fun a => brn (by clear fin; ((try simp only [fa_lt, fa_le, fa_eq, Int32.reduceToInt, tm1, tm2, tm3, tm4, tm9, tm10, tm11, tm12, tm13, tm14, tm100] at *); omega)) fin⟩)))
  · exact ME_of (S_X4_knows_0 p v σ (has_f h5 c1 hp (b0n (ME_of (S_X5_knows_0 p v σ (isHead_f h5 c2 hp (b0n ⟨rfl, hR⟩)))))))
theorem st_back (k : Int32) (hR : Rel σ) : Dbl g (d + 1) M_X4_back M_X5_back [vI k] σ := by
  obtain ⟨h, n, hC, hN⟩ := hR.2.1
  obtain ⟨n8, c1, c2, hc⟩ := id hN
  have hn : (nI n).toInt = n := nI_v (by omega)
  by_cases hk : inR k 0 n
  · have e : nI n - k = nI (n - k.toInt.toNat) := by
      have t := tS (nI n) k
      have t2 := fb_rng k
      have t3 : (nI (n - k.toInt.toNat)).toInt = ((n - k.toInt.toNat : Nat) : Int) := nI_v (by omega)
      have t4 := fb_rng (nI n - k)
      rw [fa_eq]
      omega
    refine ME_of (S_X4_back_0 k σ (brn (by rw [fa_lt]; simp; omega) (brt (by rw [fa_le, c1, hn]; omega) (ME_of (S_X5_back_0 k _ (within_t (by rw [show (sU σ 18 3 (σ 18 3 - k)) 23 18 = σ 23 18 from rfl, c2, hn]; exact hk) (b1n ?_)))))))
    refine ⟨by show σ 18 3 - k = σ 23 18 - k; rw [c1, c2], RS_fr hR.1 (fun a ha => by rw [sU_o (by omega), sU_o (by omega)]), ⟨h, n - k.toInt.toNat, RC_fr hC rfl rfl (fun a ha => by rw [sU_o (by omega), sU_o (by omega)]), ?_⟩, hR.2.2.1, hR.2.2.2⟩
    refine ⟨by omega, ?_, ?_, fun r hr => hc r (by omega)⟩
    · show σ 18 3 - k = _
      rw [c1, e]
    · show σ 23 18 - k = _
      rw [c2, e]
  · have fin : ME g (d + 1) M_X5_back [vR 23, vI k] σ (qI fun r2 σ2 => -2 = r2 ∧ Rel σ2) := ME_of (S_X5_back_0 k _ (within_f (by rw [c2, hn]; exact hk) (b0n ⟨rfl, hR⟩)))
    exact ME_of (S_X4_back_0 k σ ⟨fun a => fin, fun a => brn (by rw [fa_le, c1, hn]; rw [fa_lt] at a; simp at a; omega) fin⟩)
theorem Rel_read {h n : Nat} {t p f : Int32} (hR : Rel σ) (hC : RC σ h) (hN : RR σ h n) (hn : n < 8) (ht : inR t 0 20) (hp : inR p 0 ((h : Int) - 1)) :
    Rel (sU (sU (sU (sU (sU (sU (sU (sU σ 19 n t) 20 n p) 21 n f) 18 3 (nI (n + 1))) 34 n t) 35 n p) 36 n f) 23 18 (nI (n + 1))) := by
  obtain ⟨n8, c1, c2, hc⟩ := hN
  refine ⟨RS_fr hR.1 (fun a ha => by repeat rw [sU_o (by omega)]), ⟨h, n + 1, RC_fr hC rfl rfl (fun a ha => by repeat rw [sU_o (by omega)]), ⟨by omega, rfl, rfl, fun r hr => ?_⟩⟩, hR.2.2.1, hR.2.2.2⟩
  by_cases hrn : r = n
  · subst hrn
    refine ⟨by simp [sU, upd], by simp [sU, upd], by simp [sU, upd], by simpa [sU, upd] using ht, by simpa [sU, upd] using hp⟩
  · have := hc r (by omega)
    simpa [sU, upd, hrn] using this
theorem clsRead {F : Int32 → St → Prop} {h : Nat} {t p f : Int32} (h5 : h ≤ 5) (c1 : σ 10 3 = nI h) (hp : inR p 0 ((h : Int) - 1)) (hf : f = -9 ∨ inR f 0 ((h : Int) - 1)) (K : ((t < 0 → F (-2) σ) ∧ (¬ t < 0 → ((t ≤ 20 → (((σ 18 3) < 8 → (ME g d M_X2_add [vR 18, vI t, vI p, vI f] σ (qI (fun r9 σ10 => F r9 σ10)))) ∧ (¬ (σ 18 3) < 8 → F (-4) σ))) ∧ (¬ t ≤ 20 → F (-2) σ))))) : ME g (d + 1) M_X4_reading [vR 0, vI t, vI p, vI f] σ (qI F) :=
  ME_of (S_X4_reading_0 t p f σ (has_t h5 c1 hp (b1p ⟨fun _ => K, fun e => has_t h5 c1 (hf.resolve_left e) (b1n K)⟩)))
theorem refRead {F : Int32 → St → Prop} {h : Nat} {t p f : Int32} (h5 : h ≤ 5) (c2 : σ 23 5 = nI h) (hp : inR p 0 ((h : Int) - 1)) (hf : f = -9 ∨ inR f 0 ((h : Int) - 1)) (K : (ME g d M_X5_within [vI t, vI 0, vI 20] σ (qI (fun r6 σ7 => ((¬ r6 = 0 → ((¬ (σ7 23 18) = 8 → (vp_in (σ7 23 18) 8 ∧ F (((σ7 23 18) + 1) - 1) (sU (sU (sU (sU σ7 34 ((σ7 23 18).toNatClampNeg) t) 35 ((σ7 23 18).toNatClampNeg) p) 36 ((σ7 23 18).toNatClampNeg) f) 23 18 ((σ7 23 18) + 1)))) ∧ ((σ7 23 18) = 8 → F (-4) σ7))) ∧ (r6 = 0 → F (-2) σ7)))))) : ME g (d + 1) M_X5_reading [vR 23, vI t, vI p, vI f] σ (qI F) :=
  ME_of (S_X5_reading_0 t p f σ (isHead_t h5 c2 hp (b1p ⟨fun _ => K, fun e => isHead_t h5 c2 (hf.resolve_left e) (b1n K)⟩)))
theorem st_reading (t p f : Int32) (hR : Rel σ) : Dbl g (d + 1) M_X4_reading M_X5_reading [vI t, vI p, vI f] σ := by
  obtain ⟨h, n, hC, hN⟩ := hR.2.1
  obtain ⟨h5, c1, c2, -⟩ := id hC
  obtain ⟨n8, n1, n2, -⟩ := id hN
  have hn : (nI n).toInt = n := nI_v (by omega)
  by_cases hp : inR p 0 ((h : Int) - 1)
  · by_cases hf : f = -9 ∨ inR f 0 ((h : Int) - 1)
    · by_cases ht : inR t 0 20
      · by_cases hn8 : n < 8
        · have hin : vp_in (nI n) 8 := vp_in_nI hn8 (by decide)
          have hcl : (nI n).toNatClampNeg = n := cl_n n (by omega)
          refine clsRead h5 c1 hp hf (brn (by rw [fa_lt]; simp; omega) (brt (by rw [fa_le]; simp; omega) (brt (by rw [n1, fa_lt, hn]; simp; omega) (ME_of (S_X2_add_0 t p f σ ?_)))))
          rw [n1, hcl, nI_1]
          refine ⟨hin, refRead h5 c2 hp hf (within_t ht (b1n ?_))⟩
          rw [show (sU (sU (sU (sU σ 19 n t) 20 n p) 21 n f) 18 3 (nI (n + 1))) 23 18 = σ 23 18 from rfl, n2, hcl, nI_1]
          exact brn' (by rw [fa_eq, hn]; simp; omega) ⟨hin, by rw [nI_pred], Rel_read hR hC hN hn8 ht hp⟩
        · exact clsRead h5 c1 hp hf (brn (by rw [fa_lt]; simp; omega) (brt (by rw [fa_le]; simp; omega) (brn (by rw [n1, fa_lt, hn]; simp; omega) (refRead h5 c2 hp hf (within_t ht (b1n (brt' (by rw [n2, fa_eq, hn]; simp; omega) ⟨rfl, hR⟩)))))))
      · have fin : ME g (d + 1) M_X5_reading [vR 23, vI t, vI p, vI f] σ (qI fun r2 σ2 => -2 = r2 ∧ Rel σ2) := refRead h5 c2 hp hf (within_f ht (b0n ⟨rfl, hR⟩))
        exact clsRead h5 c1 hp hf ⟨fun _ => fin, fun a => brn (by rw [fa_le]; rw [fa_lt] at a; simp at a ⊢; omega) fin⟩
    · have f9 : ¬ f = -9 := fun e => hf (Or.inl e)
      have fh : ¬ inR f 0 ((h : Int) - 1) := fun e => hf (Or.inr e)
      exact ME_of (S_X4_reading_0 t p f σ (has_t h5 c1 hp (b1p (brn f9 (has_f h5 c1 fh (b0n (ME_of (S_X5_reading_0 t p f σ (isHead_t h5 c2 hp (b1p (brn f9 (isHead_f h5 c2 fh (b0n ⟨rfl, hR⟩)))))))))))))
  · exact ME_of (S_X4_reading_0 t p f σ (has_f h5 c1 hp (b0p (ME_of (S_X5_reading_0 t p f σ (isHead_f h5 c2 hp (b0p ⟨rfl, hR⟩)))))))
/-- TRACE of both becomes the same -/
theorem Rel_tr {σ' : St} (hR : Rel σ) (e : ∀ a, a ≠ 0 → a ≠ 23 → σ' a = σ a) (e5 : σ' 23 5 = σ 23 5) (e18 : σ' 23 18 = σ 23 18) (e7 : σ' 0 7 = σ 0 7) (e0 : σ' 23 0 = σ 23 0) (et : σ' 0 6 = σ' 23 1) : Rel σ' := by
  obtain ⟨hS, ⟨hh, n, hC, hN⟩, hT, hF⟩ := hR
  exact ⟨RS_fr hS (fun a ha => e a (by omega) (by omega)), ⟨hh, n, RC_fr hC (by rw [e 10 (by decide) (by decide)]) e5 (fun a ha => e a (by omega) (by omega)), RR_fr hN (by rw [e 18 (by decide) (by decide)]) e18 (fun a ha => e a (by omega) (by omega))⟩, et, by rw [e7, e0]; exact hF⟩
theorem m_leave {F : St → Prop} {x : Int32} (h : F (sU σ 0 6 (31 * σ 0 6 + x))) : ME g d M_X4_leaveTrace [vR 0, vI x] σ (qV F) := ME_of (S_X4_leaveTrace_0 x σ h)
theorem m_begins {F : St → Prop} {x : Int32} (h : F (sU σ 23 1 (31 * σ 23 1 + x))) : ME g d M_X5_begins [vR 23, vI x] σ (qV F) := ME_of (S_X5_begins_0 x σ h)
theorem m_headsT {F : Int32 → St → Prop} {p : Int32} (hi : vp_in p 5) (h : F (σ 12 p.toNatClampNeg) (sU σ 0 6 (31 * σ 0 6 + 1))) : ME g (d + 1) M_X4_headsTelling [vR 0, vI p] σ (qI F) := ME_of (S_X4_headsTelling_0 p σ (m_leave ⟨hi, h⟩))
theorem m_lordsT {F : Int32 → St → Prop} {p : Int32} (hi : vp_in p 5) (h : F (σ 12 p.toNatClampNeg + 100) (sU (sU σ 0 6 (31 * σ 0 6 + 2)) 0 6 (31 * (31 * σ 0 6 + 2) + 1))) : ME g (d + 2) M_X4_lordsTelling [vR 0, vI p] σ (qI F) := ME_of (S_X4_lordsTelling_0 p σ (m_leave (m_headsT hi h)))
theorem st_tell (p : Int32) (hR : Rel σ) : Dbl g (d + 4) M_X4_tell M_X5_tell [vI p] σ := by
  obtain ⟨h, n, hC, hN⟩ := hR.2.1
  obtain ⟨h5, c1, c2, hc⟩ := id hC
  by_cases hp : inR p 0 ((h : Int) - 1)
  · have hi : vp_in p 5 := inR_in hp (by omega)
    have hpl : p.toNatClampNeg < h := by rw [tcl]; omega
    obtain ⟨e1, e2, e3, e4, e5, e6⟩ := hc p.toNatClampNeg hpl
    refine ME_of (S_X4_tell_0 p σ (has_t h5 c1 hp (b1n ⟨hi, fun a => m_lordsT hi ?_, fun a => ⟨fun b => ME_of (S_X4_spysTelling_0 p σ (m_leave (m_lordsT hi (m_headsT hi ?_)))), fun b => m_headsT hi ?_⟩⟩)))
    · refine ME_of (S_X5_tell_0 p _ (isHead_t h5 c2 hp (b1n ⟨hi, brt (by show σ 27 _ = 1; rw [← e1]; exact a) (m_begins (m_begins ⟨?_, Rel_tr hR (fun a h0 h23 => by repeat rw [sU_o (by omega)]) rfl rfl rfl rfl ?_⟩))⟩)))
      · show σ 12 p.toNatClampNeg + 100 = σ 28 p.toNatClampNeg + 100
        rw [e2]
      · show 31 * (31 * σ 0 6 + 2) + 1 = 31 * (31 * σ 23 1 + 2) + 1
        rw [hR.2.2.1]
    · refine ME_of (S_X5_tell_0 p _ (isHead_t h5 c2 hp (b1n ⟨hi, brn (by show ¬ σ 27 _ = 1; rw [← e1]; exact a) (brt (by show σ 27 _ = 2; rw [← e1]; exact b) (m_begins (m_begins (m_begins (m_begins ⟨?_, Rel_tr hR (fun a h0 h23 => by repeat rw [sU_o (by omega)]) rfl rfl rfl rfl ?_⟩)))))⟩)))
      · show (σ 12 p.toNatClampNeg + 100) + σ 12 p.toNatClampNeg = 2 * σ 28 p.toNatClampNeg + 100
        rw [e2, fa_eq]
        have r1 : inR (σ 28 p.toNatClampNeg) 1 9 := by rw [← e2]; exact e5
        have t1 := tA (σ 28 p.toNatClampNeg) 100
        have t2 := tA (σ 28 p.toNatClampNeg + 100) (σ 28 p.toNatClampNeg)
        have t3 : 2 * σ 28 p.toNatClampNeg = σ 28 p.toNatClampNeg + σ 28 p.toNatClampNeg := Int32.two_mul
        have t4 := tA (σ 28 p.toNatClampNeg) (σ 28 p.toNatClampNeg)
        have t5 := tA (σ 28 p.toNatClampNeg + σ 28 p.toNatClampNeg) 100
        have t6 := fb_rng (σ 28 p.toNatClampNeg + 100)
        have t7 := fb_rng (σ 28 p.toNatClampNeg + 100 + σ 28 p.toNatClampNeg)
        have t8 := fb_rng (σ 28 p.toNatClampNeg + σ 28 p.toNatClampNeg)
        have t9 := fb_rng (σ 28 p.toNatClampNeg + σ 28 p.toNatClampNeg + 100)
        have t0 : (100 : Int32).toInt = 100 := rfl
        rw [t3]
        omega
      · show 31 * (31 * (31 * (31 * σ 0 6 + 3) + 2) + 1) + 1 = 31 * (31 * (31 * (31 * σ 23 1 + 3) + 2) + 1) + 1
        rw [hR.2.2.1]
    · refine ME_of (S_X5_tell_0 p _ (isHead_t h5 c2 hp (b1n ⟨hi, brn (by show ¬ σ 27 _ = 1; rw [← e1]; exact a) (brn (by show ¬ σ 27 _ = 2; rw [← e1]; exact b) (m_begins ⟨?_, Rel_tr hR (fun a h0 h23 => by repeat rw [sU_o (by omega)]) rfl rfl rfl rfl ?_⟩))⟩)))
      · show σ 12 p.toNatClampNeg = σ 28 p.toNatClampNeg
        exact e2
      · show 31 * σ 0 6 + 1 = 31 * σ 23 1 + 1
        rw [hR.2.2.1]
  · exact ME_of (S_X4_tell_0 p σ (has_f h5 c1 hp (b0n (ME_of (S_X5_tell_0 p σ (isHead_f h5 c2 hp (b0n ⟨rfl, hR⟩)))))))
theorem st_greet (p : Int32) (hR : Rel σ) : Dbl g (d + 1) M_X4_greet M_X5_greet [vI p] σ := by
  obtain ⟨h, n, hC, hN⟩ := hR.2.1
  obtain ⟨h5, c1, c2, hc⟩ := id hC
  by_cases hp : inR p 0 ((h : Int) - 1)
  · have hi : vp_in p 5 := inR_in hp (by omega)
    have hpl : p.toNatClampNeg < h := by rw [tcl]; omega
    obtain ⟨e1, e2, e3, e4, e5, e6⟩ := hc p.toNatClampNeg hpl
    refine ME_of (S_X4_greet_0 p σ (has_t h5 c1 hp (b1n ⟨hi, fun a => m_leave ?_, fun a => m_leave ?_⟩)))
    · have a2 : ¬ σ 27 p.toNatClampNeg = 2 := by rw [← e1]; exact a
      refine ME_of (S_X5_greet_0 p _ (isHead_t h5 c2 hp (b1n ⟨hi, brn' a2 (m_begins (brn' a2 ⟨rfl, Rel_tr hR (fun a h0 h23 => by repeat rw [sU_o (by omega)]) rfl rfl rfl rfl ?_⟩))⟩)))
      show 31 * σ 0 6 + 4 = 31 * σ 23 1 + 4
      rw [hR.2.2.1]
    · have a2 : σ 27 p.toNatClampNeg = 2 := by rw [← e1]; exact a
      refine ME_of (S_X5_greet_0 p _ (isHead_t h5 c2 hp (b1n ⟨hi, brt' a2 (m_begins (brt' a2 ⟨rfl, Rel_tr hR (fun a h0 h23 => by repeat rw [sU_o (by omega)]) rfl rfl rfl rfl ?_⟩))⟩)))
      show 31 * σ 0 6 + 5 = 31 * σ 23 1 + 5
      rw [hR.2.2.1]
  · exact ME_of (S_X4_greet_0 p σ (has_f h5 c1 hp (b0n (ME_of (S_X5_greet_0 p σ (isHead_f h5 c2 hp (b0n ⟨rfl, hR⟩)))))))
/-- the fault 0 on both sides -/
theorem Rel_n0 {r : Int32} (hR : Rel σ) (hr : ntV r = 0) : Rel (sU (sU σ 0 7 (ntV r)) 23 0 0) := Rel_note hR (fun a h0 h23 => by repeat rw [sU_o (by omega)]) rfl rfl rfl rfl (by rw [hr]; rfl)
theorem st_as (p k : Int32) (hR : Rel σ) : Dbl g (d + 2) M_X4_as M_X5_as [vI p, vI k] σ := by
  obtain ⟨h, n, hC, hN⟩ := hR.2.1
  obtain ⟨h5, c1, c2, hc⟩ := id hC
  by_cases hp : inR p 0 ((h : Int) - 1)
  · have hi : vp_in p 5 := inR_in hp (by omega)
    have hpl : p.toNatClampNeg < h := by rw [tcl]; omega
    obtain ⟨e1, e2, e3, e4, e5, e6⟩ := hc p.toNatClampNeg hpl
    by_cases hk : inR k 0 2
    · by_cases hq : σ 11 p.toNatClampNeg < k
      · refine ME_of (S_X4_as_0 p k σ (ME_of (S_X4_answerOfKind_0 p k σ (has_t h5 c1 hp (b1n (brn (by ((try simp only [fa_lt, fa_le, fa_eq, Int32.reduceToInt, tm1, tm2, tm3, tm4, tm9, tm10, tm11, tm12, tm13, tm14, tm100] at *); omega)) (brt (by ((try simp only [fa_lt, fa_le, fa_eq, Int32.reduceToInt, tm1, tm2, tm3, tm4, tm9, tm10, tm11, tm12, tm13, tm14, tm100] at *); omega)) ⟨hi, brt hq (m_noted ?_)⟩)))))))
        refine ME_of (S_X5_as_0 p k _ (isHead_t h5 c2 hp (b1n (within_t hk (b1n ⟨hi, brt (by show σ 27 _ < k; rw [← e1]; exact hq) (m_fails ⟨rfl, ?_⟩)⟩)))))
        exact Rel_note hR (fun a h0 h23 => by repeat rw [sU_o (by omega)]) rfl rfl rfl rfl rfl
      · refine ME_of (S_X4_as_0 p k σ (ME_of (S_X4_answerOfKind_0 p k σ (has_t h5 c1 hp (b1n (brn (by ((try simp only [fa_lt, fa_le, fa_eq, Int32.reduceToInt, tm1, tm2, tm3, tm4, tm9, tm10, tm11, tm12, tm13, tm14, tm100] at *); omega)) (brt (by ((try simp only [fa_lt, fa_le, fa_eq, Int32.reduceToInt, tm1, tm2, tm3, tm4, tm9, tm10, tm11, tm12, tm13, tm14, tm100] at *); omega)) ⟨hi, brn hq (m_noted ?_)⟩)))))))
        exact ME_of (S_X5_as_0 p k _ (isHead_t h5 c2 hp (b1n (within_t hk (b1n ⟨hi, brn (by show ¬ σ 27 _ < k; rw [← e1]; exact hq) ⟨rfl, Rel_n0 hR rfl⟩⟩)))))
    · have fin : ME g (d + 1) M_X4_noted [vR 0, vI (-2)] σ (qI fun r1 σ1 => ME g (d + 2) M_X5_as [vR 23, vI p, vI k] σ1 (qI fun r2 σ2 => r1 = r2 ∧ Rel σ2)) := m_noted (ME_of (S_X5_as_0 p k _ (isHead_t h5 c2 hp (b1n (within_f hk (b0n ⟨rfl, Rel_n0 hR rfl⟩))))))
      exact ME_of (S_X4_as_0 p k σ (ME_of (S_X4_answerOfKind_0 p k σ (has_t h5 c1 hp (b1n ⟨fun a => fin, fun a => brn (by rw [fa_lt]; rw [fa_lt] at a; simp at a ⊢; omega) fin⟩)))))
  · exact ME_of (S_X4_as_0 p k σ (ME_of (S_X4_answerOfKind_0 p k σ (has_f h5 c1 hp (b0n (m_noted (ME_of (S_X5_as_0 p k _ (isHead_f h5 c2 hp (b0n ⟨rfl, Rel_n0 hR rfl⟩))))))))))
end HEADS
