/-! the TEXT of a COURT -/
/-- with the code c at this place a TEXT goes on -/
def gOn (q : Nat) (c : Int32) : Bool := if q = 0 then decide (c = 109) else if 20 < q then false else if (q - 1) % 4 = 0 then decide (c = 59) else if (q - 1) % 4 = 1 then decide (c = 104 ∨ c = 108 ∨ c = 115) else if (q - 1) % 4 = 2 then decide (inR c 49 57) else decide (inR c 48 53)
/-- the class's first fault: m places are left, from q on -/
def ffN (tx : Nat → Int32) (n : Nat) : Nat → Nat → Int32
  | 0, _ => if 8 < n ∧ (n - 1) % 4 = 0 then -9 else nI n
  | m + 1, q => if gOn q (tx q) = true then ffN tx n m (q + 1) else nI q
def kdL (c : Int32) : Int32 := if c = 115 then 2 else if c = 108 then 1 else 0
section TEXT
variable {g : GG} {d : Nat} {σ : St} {F : Int32 → St → Prop}
theorem m_goesOn {q : Nat} {c : Int32} (hq : q < 60) (h1 : gOn q c = true → F 1 σ) (h0 : gOn q c = false → F 0 σ) : ME g d M_X4_goesOn [vI (nI q), vI c] σ (qI F) := by
  have vq := nI_v (n := q) (by omega)
  refine ME_of (S_X4_goesOn_0 (nI q) c σ ⟨fun a => ?_, fun a => ?_⟩)
  · have q0 : q ≠ 0 := fun e => a (by rw [e]; rfl)
    have e : (nI q - 1) - (nI q - 1) / 4 * 4 = nI ((q - 1) % 4) := by
      show (nI q - nI 1) - (nI q - nI 1) / nI 4 * nI 4 = _
      rw [pk_sub (by omega), pk_rem (by omega) (by decide) (by decide)]
    rw [e]
    have el : ∀ z : Nat, z < 10 → ((nI ((q - 1) % 4) = nI z) ↔ (q - 1) % 4 = z) := fun z hz => nI_eq (by omega) (by omega)
    have e0 := el 0 (by decide)
    have e1 := el 1 (by decide)
    have e2 := el 2 (by decide)
    refine ⟨fun b => ?_, fun b => ?_⟩
    · have b20 : ¬ 20 < q := by rw [fa_le] at b; simp at b; omega
      refine ⟨fun c0 => ?_, fun c0 => ⟨fun c1 => ?_, fun c1 => ⟨fun c2 => ?_, fun c2 => ?_⟩⟩⟩
      · have f0 : (q - 1) % 4 = 0 := e0.mp c0
        have gg : gOn q c = decide (c = 59) := by rw [gOn, if_neg q0, if_neg b20, if_pos f0]
        exact ⟨fun x => h0 (by rw [gg]; simpa using x), fun x => h1 (by rw [gg]; simpa using x)⟩
      · have f0 : ¬ (q - 1) % 4 = 0 := fun x => c0 (e0.mpr x)
        have f1 : (q - 1) % 4 = 1 := e1.mp c1
        have gg : gOn q c = decide (c = 104 ∨ c = 108 ∨ c = 115) := by rw [gOn, if_neg q0, if_neg b20, if_neg f0, if_pos f1]
        exact ⟨fun x => h1 (by rw [gg]; simp [x]), fun x => ⟨fun y => h1 (by rw [gg]; simp [y]), fun y => ⟨fun z => h0 (by rw [gg]; simp [x, y, z]), fun z => h1 (by rw [gg]; simp [z])⟩⟩⟩
      · have f0 : ¬ (q - 1) % 4 = 0 := fun x => c0 (e0.mpr x)
        have f1 : ¬ (q - 1) % 4 = 1 := fun x => c1 (e1.mpr x)
        have f2 : (q - 1) % 4 = 2 := e2.mp c2
        have gg : gOn q c = decide (inR c 49 57) := by rw [gOn, if_neg q0, if_neg b20, if_neg f0, if_neg f1, if_pos f2]
        refine ⟨fun x => h0 ?_, fun x => ⟨fun y => h0 ?_, fun y => h1 ?_⟩⟩
        · rw [gg, decide_eq_false_iff_not]; rw [fa_lt] at x; simp at x; omega
        · rw [gg, decide_eq_false_iff_not]; rw [fa_lt] at y; simp at y; omega
        · rw [gg, decide_eq_true_eq]; rw [fa_lt] at x y; simp at x y; omega
      · have f0 : ¬ (q - 1) % 4 = 0 := fun x => c0 (e0.mpr x)
        have f1 : ¬ (q - 1) % 4 = 1 := fun x => c1 (e1.mpr x)
        have f2 : ¬ (q - 1) % 4 = 2 := fun x => c2 (e2.mpr x)
        have gg : gOn q c = decide (inR c 48 53) := by rw [gOn, if_neg q0, if_neg b20, if_neg f0, if_neg f1, if_neg f2]
        refine ⟨fun x => h0 ?_, fun x => ⟨fun y => h0 ?_, fun y => h1 ?_⟩⟩
        · rw [gg, decide_eq_false_iff_not]; rw [fa_lt] at x; simp at x; omega
        · rw [gg, decide_eq_false_iff_not]; rw [fa_lt] at y; simp at y; omega
        · rw [gg, decide_eq_true_eq]; rw [fa_lt] at x y; simp at x y; omega
    · exact h0 (by rw [gOn, if_neg q0, if_pos (by rw [fa_le] at b; simp at b; omega)])
  · have q0 : q = 0 := by rw [fa_eq, vq] at a; simp at a; omega
    have gg : gOn q c = decide (c = 109) := by rw [gOn, if_pos q0]
    exact ⟨fun x => h0 (by rw [gg]; simpa using x), fun x => h1 (by rw [gg]; simpa using x)⟩
theorem l_firstFault {k i n : Nat} (hk : k < 4) (hn : i + n ≤ 60) (hF : F (ffN (fun q => σ (6 + k) (i + q)) n n 0) σ) : ∀ m q : Nat, q + m = n → ffN (fun q => σ (6 + k) (i + q)) n m q = ffN (fun q => σ (6 + k) (i + q)) n n 0 → VM g (d + 1) M_X4_firstFault (qI F) 2 [(0, vR (2 + k)), (1, vI (nI i)), (2, vI (nI n)), (3, vI (nI q))] [] σ
  | 0, q, hq, e => by
    have vn := nI_v (n := n) (by omega)
    refine S_X4_firstFault_2 hk (nI i) (nI n) (nI q) σ (brt (nI_le (by omega) (by omega)) ?_)
    rw [← e, ffN] at hF
    refine ⟨fun a => ?_, fun a => ?_⟩
    · rw [if_neg (by rw [fa_le, vn] at a; simp at a; omega)] at hF
      exact hF
    · have a' : 8 < n := by rw [fa_le, vn] at a; simp at a; omega
      have er : (nI n - 1) - (nI n - 1) / 4 * 4 = nI ((n - 1) % 4) := by
        show (nI n - nI 1) - (nI n - nI 1) / nI 4 * nI 4 = _
        rw [pk_sub (by omega), pk_rem (by omega) (by decide) (by decide)]
      rw [er]
      have el : ((nI ((n - 1) % 4) = nI 0) ↔ (n - 1) % 4 = 0) := nI_eq (by omega) (by omega)
      refine ⟨fun b => ?_, fun b => ?_⟩
      · rw [if_neg (fun q => b (el.mpr q.2))] at hF
        exact hF
      · rw [if_pos ⟨a', el.mp b⟩] at hF
        exact hF
  | m + 1, q, hq, e => by
    refine S_X4_firstFault_2 hk (nI i) (nI n) (nI q) σ (brn (nI_ge (by omega) (by omega)) ?_)
    rw [nI_add, cl_n _ (by omega), nI_1]
    refine ⟨vp_in_nI (by omega) (by decide), m_goesOn (by omega) (fun a => b1n ?_) (fun a => b0n ?_)⟩
    · rw [ffN, if_pos a] at e
      exact l_firstFault hk hn hF m (q + 1) (by omega) e
    · rw [ffN, if_neg (by rw [a]; decide)] at e
      rw [← e] at hF
      exact hF
theorem m_firstFault {k i n : Nat} (hk : k < 4) (hn : i + n ≤ 60) (hF : F (ffN (fun q => σ (6 + k) (i + q)) n n 0) σ) : ME g (d + 1) M_X4_firstFault [vR (2 + k), vI (nI i), vI (nI n)] σ (qI F) :=
  ME_of (S_X4_firstFault_0 hk (nI i) (nI n) σ (l_firstFault hk hn hF n 0 (by omega) rfl))
theorem m_kindOfLetter {c : Int32} (h : F (kdL c) σ) : ME g d M_X4_kindOfLetter [vI c] σ (qI F) := by
  refine ME_of (S_X4_kindOfLetter_0 c σ ⟨fun a => ⟨fun b => ?_, fun b => ?_⟩, fun a => ?_⟩)
  · rw [kdL, if_neg a, if_neg b] at h; exact h
  · rw [kdL, if_neg a, if_pos b] at h; exact h
  · rw [kdL, if_pos a] at h; exact h
/-- the heads are gathered out of the TEXT -/
theorem l_gather {G : St → Prop} {k i m : Nat} {x3 : Int32} (hk : k < 4) (hm : m ≤ 5) (hi : i + (1 + 4 * m) ≤ 60) (σ0 : St) (h10 : σ0 10 3 = nI m)
    (hF : ∀ σ' : St, (∀ c, c ≠ 11 → c ≠ 12 → c ≠ 13 → σ' c = σ0 c) → (∀ p, p < m → σ' 11 p = kdL (σ0 (6 + k) (i + (4 * p + 2))) ∧ σ' 12 p = σ0 (6 + k) (i + (4 * p + 3)) - 48 ∧ σ' 13 p = σ0 (6 + k) (i + (4 * p + 4)) - 48) → G σ') :
    ∀ (r p : Nat) (σ : St), p + r = m → (∀ c, c ≠ 11 → c ≠ 12 → c ≠ 13 → σ c = σ0 c) → (∀ q, q < p → σ 11 q = kdL (σ0 (6 + k) (i + (4 * q + 2))) ∧ σ 12 q = σ0 (6 + k) (i + (4 * q + 3)) - 48 ∧ σ 13 q = σ0 (6 + k) (i + (4 * q + 4)) - 48) → VM g (d + 1) M_X0_gather (qV G) 12 [(0, vR 10), (1, vR (2 + k)), (2, vI (nI i)), (3, vI x3), (4, vI (nI p))] [] σ
  | 0, p, σ, hp, h1, h2 => S_X0_gather_12 hk (nI i) x3 (nI p) σ (brt (by rw [h1 10 (by decide) (by decide) (by decide), h10]; exact nI_le (by omega) (by omega)) (hF σ h1 (fun q hq => h2 q (by omega))))
  | r + 1, p, σ, hp, h1, h2 => by
    refine S_X0_gather_12 hk (nI i) x3 (nI p) σ (brn (by rw [h1 10 (by decide) (by decide) (by decide), h10]; exact nI_ge (by omega) (by omega)) ?_)
    have e2 : nI i + nI p * 4 + 2 = nI (i + (4 * p + 2)) := by
      show nI i + nI p * nI 4 + nI 2 = _
      rw [pk_mul, nI_add, nI_add]
      congr 1
      omega
    have e3 : nI (i + (4 * p + 2)) + 1 = nI (i + (4 * p + 3)) := by
      show nI (i + (4 * p + 2)) + nI 1 = _
      rw [nI_add]
      congr 1
    have e4 : nI (i + (4 * p + 2)) + 2 = nI (i + (4 * p + 4)) := by
      show nI (i + (4 * p + 2)) + nI 2 = _
      rw [nI_add]
      congr 1
    have s6 : σ (6 + k) = σ0 (6 + k) := h1 _ (by omega) (by omega) (by omega)
    rw [e2, e3, e4, cl_n (i + (4 * p + 2)) (by omega), cl_n (i + (4 * p + 3)) (by omega), cl_n (i + (4 * p + 4)) (by omega), cl_n p (by omega), nI_1]
    refine ⟨vp_in_nI (by omega) (by decide), m_kindOfLetter ⟨vp_in_nI (by omega) (by decide), vp_in_nI (by omega) (by decide), vp_in_nI (by omega) (by decide), l_gather hk hm hi σ0 h10 hF r (p + 1) _ (by omega) (fun c c1 c2 c3 => by rw [sU_o c3, sU_o c2, sU_o c1, h1 c c1 c2 c3]) (fun q hq => ?_)⟩⟩
    rw [sU_o (show 6 + k ≠ 12 by omega), sU_o (show 6 + k ≠ 11 by omega), s6]
    by_cases e : q = p
    · subst e
      exact ⟨by simp [sU, upd], by simp [sU, upd], by simp [sU, upd]⟩
    · have := h2 q (by omega)
      simpa [sU, upd, e] using this
end TEXT
