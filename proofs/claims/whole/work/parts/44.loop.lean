/-! the switch, the loop -/
theorem law_switch {g : GG} {L : Nat} {xs : Nat → Int32} {k : Nat} {σ : St} (w : Int32) (hk : k + 6 ≤ L) (hL : L ≤ 3072) (hR : Rel σ) (next : ∀ σ2 : St, Rel σ2 → VL g L xs 1051 (lsL k) [] σ2) : VL g L xs 33 (lsL k) [vI w] σ := by
  have hc : (w.toInt < 0 ∨ 22 < w.toInt) ∨ w.toInt = 0 ∨ w.toInt = 1 ∨ w.toInt = 2 ∨ w.toInt = 3 ∨ w.toInt = 4 ∨ w.toInt = 5 ∨ w.toInt = 6 ∨ w.toInt = 7 ∨ w.toInt = 8 ∨ w.toInt = 9 ∨ w.toInt = 10 ∨ w.toInt = 11 ∨ w.toInt = 12 ∨ w.toInt = 13 ∨ w.toInt = 14 ∨ w.toInt = 15 ∨ w.toInt = 16 ∨ w.toInt = 17 ∨ w.toInt = 18 ∨ w.toInt = 19 ∨ w.toInt = 20 ∨ w.toInt = 21 ∨ w.toInt = 22 := by omega
  rcases hc with hc | hc | hc | hc | hc | hc | hc | hc | hc | hc | hc | hc | hc | hc | hc | hc | hc | hc | hc | hc | hc | hc | hc | hc
  · exact VE_tableOut 1051 dL_law_33 hc (next σ hR)
  · exact VE_tableIn (off := 107) 140 dL_law_33 (by omega) (by omega) (by rw [hc]; rfl) (lc_court hk hL hR next)
  · exact VE_tableIn (off := 160) 193 dL_law_33 (by omega) (by omega) (by rw [hc]; rfl) (lc_ofHead hk hL hR next)
  · exact VE_tableIn (off := 193) 226 dL_law_33 (by omega) (by omega) (by rw [hc]; rfl) (lc_wear hk hL hR next)
  · exact VE_tableIn (off := 226) 259 dL_law_33 (by omega) (by omega) (by rw [hc]; rfl) (lc_knows hk hL hR next)
  · exact VE_tableIn (off := 259) 292 dL_law_33 (by omega) (by omega) (by rw [hc]; rfl) (lc_visits hk hL hR next)
  · exact VE_tableIn (off := 322) 355 dL_law_33 (by omega) (by omega) (by rw [hc]; rfl) (lc_plan hk hL hR next)
  · exact VE_tableIn (off := 365) 398 dL_law_33 (by omega) (by omega) (by rw [hc]; rfl) (lc_reading hk hL hR next)
  · exact VE_tableIn (off := 408) 441 dL_law_33 (by omega) (by omega) (by rw [hc]; rfl) (lc_back hk hL hR next)
  · exact VE_tableIn (off := 431) 464 dL_law_33 (by omega) (by omega) (by rw [hc]; rfl) (lc_who hk hL hR next)
  · exact VE_tableIn (off := 494) 527 dL_law_33 (by omega) (by omega) (by rw [hc]; rfl) (lc_kinds hk hL hR next)
  · exact VE_tableIn (off := 557) 590 dL_law_33 (by omega) (by omega) (by rw [hc]; rfl) (lc_wears hk hL hR next)
  · exact VE_tableIn (off := 620) 653 dL_law_33 (by omega) (by omega) (by rw [hc]; rfl) (lc_odds hk hL hR next)
  · exact VE_tableIn (off := 674) 707 dL_law_33 (by omega) (by omega) (by rw [hc]; rfl) (lc_sheet hk hL hR next)
  · exact VE_tableIn (off := 717) 750 dL_law_33 (by omega) (by omega) (by rw [hc]; rfl) (lc_lose hk hL hR next)
  · exact VE_tableIn (off := 740) 773 dL_law_33 (by omega) (by omega) (by rw [hc]; rfl) (lc_put hk hL hR next)
  · exact VE_tableIn (off := 783) 816 dL_law_33 (by omega) (by omega) (by rw [hc]; rfl) (lc_cell hk hL hR next)
  · exact VE_tableIn (off := 827) 860 dL_law_33 (by omega) (by omega) (by rw [hc]; rfl) (lc_copy hk hL hR next)
  · exact VE_tableIn (off := 890) 923 dL_law_33 (by omega) (by omega) (by rw [hc]; rfl) (lc_tell hk hL hR next)
  · exact VE_tableIn (off := 913) 946 dL_law_33 (by omega) (by omega) (by rw [hc]; rfl) (lc_greet hk hL hR next)
  · exact VE_tableIn (off := 936) 969 dL_law_33 (by omega) (by omega) (by rw [hc]; rfl) (lc_as hk hL hR next)
  · exact VE_tableIn (off := 969) 1002 dL_law_33 (by omega) (by omega) (by rw [hc]; rfl) (lc_trace hk hL hR next)
  · exact VE_tableIn (off := 982) 1015 dL_law_33 (by omega) (by omega) (by rw [hc]; rfl) (lc_fault hk hL hR next)
  · exact VE_tableIn (off := 995) 1028 dL_law_33 (by omega) (by omega) (by rw [hc]; rfl) (lc_many hk hL hR next)
section LOOP
variable {g : GG} {L : Nat} {xs : Nat → Int32}
theorem law_loop (hL : L ≤ 3072) : ∀ (n k : Nat) (σ : St), L ≤ k + n → k ≤ 3072 → Rel σ → VL g L xs 18 (lsL k) [] σ := by
  have hLv : (nI L - 6).toInt = (L : Int) - 6 := by
    have h1 := nI_v (n := L) (by omega)
    have h2 : (6 : Int32).toInt = 6 := rfl
    have h3 := tS (nI L) 6
    have h4 := Int32.le_toInt (nI L - 6)
    have h5 := Int32.toInt_lt (nI L - 6)
    rw [h1, h2] at h3
    omega
  intro n
  induction n with
  | zero =>
    intro k σ h1 h2 hR
    refine VE_iload_n 0 dL_law_18 (k := ?_)
    refine VE_aload_n 3 dL_law_19 (k := ?_)
    refine VL_slen dL_law_20 ?_
    refine VE_bipush 6 dL_law_21 (k := ?_)
    refine VE_isub dL_law_23 ?_
    refine VE_icmp_gt 1057 dL_law_24 (fun _ => ?_) (fun hn => absurd ?_ hn)
    · exact VE_iconst 1 dL_law_1057 (k := VL_ret dL_law_1058)
    · rw [fa_lt, hLv, nI_v (by omega)]
      omega
  | succ n ih =>
    intro k σ h1 h2 hR
    refine VE_iload_n 0 dL_law_18 (k := ?_)
    refine VE_aload_n 3 dL_law_19 (k := ?_)
    refine VL_slen dL_law_20 ?_
    refine VE_bipush 6 dL_law_21 (k := ?_)
    refine VE_isub dL_law_23 ?_
    refine VE_icmp_gt 1057 dL_law_24 (fun _ => ?_) (fun hn => ?_)
    · exact VE_iconst 1 dL_law_1057 (k := VL_ret dL_law_1058)
    · have hk : k + 6 ≤ L := by
        rw [fa_lt, hLv, nI_v (by omega)] at hn
        omega
      refine VE_aload_n 3 dL_law_27 (k := ?_)
      refine VE_iload_n 0 dL_law_28 (k := ?_)
      refine VL_at (by omega) hL dL_law_29 ?_
      refine VE_bipush 31 dL_law_30 (k := ?_)
      refine VE_iand dL_law_32 ?_
      refine law_switch _ hk hL hR (fun σ2 hR2 => ?_)
      refine VE_iinc 0 (nI (k + 6)) dL_law_1051 (hv := (nI_plus k 6)) (k := ?_)
      refine VE_goto 18 dL_law_1054 ?_
      exact ih (k + 6) σ2 (by omega) (by omega) hR2
end LOOP
