/-! the entry of the law: the tables' classes, both constructors, the store that they leave -/
def dfl4 : List Value := [.null, .null, .null, .null, .null, .int 0, .int 0, .int 0]
theorem kn_start {s : State} {args : Array Value} (hts : ∀ w ∈ lw_tbl, w.before args s = true) : ∃ D : va_G, ∃ cI cS : ClassId, va_K D classes [(cI, .int), (cS, .object RX3)] s := by
  have up : ∀ {ci : Nat} {C : String} {T : u_T} {N : Nat}, classes[ci]? = some (C, T, N) → ∀ w ∈ u_ws C T N, w ∈ lw_tbl := fun h w hw => (List.mem_filter.mp ((cls_ok h).1 w hw)).1
  obtain ⟨c0, i0, h0⟩ := u_known (C := RX0) (T := TX0) (N := 4) (n := 4) hts (up (ci := 0) rfl) (hts _ (List.mem_of_getElem? (i := 86) (by decide +kernel)))
  obtain ⟨c1, i1, h1⟩ := u_known (C := RX1) (T := TX1) (N := 5) (n := 5) hts (up (ci := 1) rfl) (hts _ (List.mem_of_getElem? (i := 112) (by decide +kernel)))
  obtain ⟨c2, i2, h2⟩ := u_known (C := RX2) (T := TX2) (N := 4) (n := 4) hts (up (ci := 2) rfl) (hts _ (List.mem_of_getElem? (i := 140) (by decide +kernel)))
  obtain ⟨c3, i3, h3⟩ := u_known (C := RX3) (T := TX3) (N := 3) (n := 3) hts (up (ci := 3) rfl) (hts _ (List.mem_of_getElem? (i := 65) (by decide +kernel)))
  obtain ⟨c4, i4, h4⟩ := u_known (C := RX4) (T := TX4) (N := 8) (n := 8) hts (up (ci := 4) rfl) (hts _ (List.mem_of_getElem? (i := 56) (by decide +kernel)))
  obtain ⟨c5, i5, h5⟩ := u_known (C := RX5) (T := TX5) (N := 22) (n := 22) hts (up (ci := 5) rfl) (hts _ (List.mem_of_getElem? (i := 464) (by decide +kernel)))
  obtain ⟨cI, kI, cmI, a1, a2, a3⟩ := Cond.arrayClass_spec (hts (.arrayClass .int) (List.mem_of_getElem? (i := 84) (by decide +kernel)))
  obtain ⟨cmS, cS, kS, b1, b2, b3, b4, b5⟩ := Cond.arrayOver_spec (hts (.arrayOver (.object RX3)) (List.mem_of_getElem? (i := 64) (by decide +kernel)))
  refine ⟨(fun k => match k with | 0 => c0 | 1 => c1 | 2 => c2 | 3 => c3 | 4 => c4 | _ => c5, fun k => match k with | 0 => i0 | 1 => i1 | 2 => i2 | 3 => i3 | 4 => i4 | _ => i5), cI, cS, ?_, ?_⟩
  · intro k q hq
    match k, hq with
    | 0, hq => cases hq; exact h0
    | 1, hq => cases hq; exact h1
    | 2, hq => cases hq; exact h2
    | 3, hq => cases hq; exact h3
    | 4, hq => cases hq; exact h4
    | 5, hq => cases hq; exact h5
    | k + 6, hq => simp [classes] at hq
  · intro k q hq
    match k, hq with
    | 0, hq =>
      cases hq
      exact ⟨fun n z => ⟨fun k h => (by cases h), kI, a2, cmI, a3⟩, a1⟩
    | 1, hq =>
      cases hq
      exact ⟨fun n z => ⟨fun k h => (by cases h), kS, b3, cmS, b4⟩, kS, cmS, b3, b4, b1, b5⟩
    | k + 2, hq => simp at hq
def sig0 : St := fun j => match j with
  | 2 => fun k => if k = 2 then -9 else 0
  | 3 => fun k => if k = 2 then -9 else 0
  | 4 => fun k => if k = 2 then -9 else 0
  | 5 => fun k => if k = 2 then -9 else 0
  | 14 => fun k => if k = 4 then -9 else 0
  | 24 => upd (upd (upd (upd (fun _ => 0) (Int32.toNatClampNeg 0) (-9)) (Int32.toNatClampNeg 1) (-9)) (Int32.toNatClampNeg 2) (-9)) (Int32.toNatClampNeg 3) (-9)
  | _ => fun _ => 0
theorem rel0 : Rel sig0 := by
  refine ⟨⟨fun k hk => Or.inl ?_, fun k i hk hi => ?_⟩, ⟨0, 0, ⟨by omega, rfl, rfl, fun p hp => absurd hp (by omega)⟩, ⟨by omega, rfl, rfl, fun p hp => absurd hp (by omega)⟩⟩, rfl, rfl⟩
  · match k, hk with
    | 0, _ => exact ⟨rfl, rfl⟩
    | 1, _ => exact ⟨rfl, rfl⟩
    | 2, _ => exact ⟨rfl, rfl⟩
    | 3, _ => exact ⟨rfl, rfl⟩
    | k + 4, h => omega
  · match k, hk with
    | 0, _ => rfl
    | 1, _ => rfl
    | 2, _ => rfl
    | 3, _ => rfl
    | k + 4, h => omega
def adL (q0 : Nat) (u : Nat → Nat) (q1 : Nat) (v : Nat → Nat) (b : Nat) : Nat → Nat := fun j => if j = 0 then q0 else if j < 23 then u j else if j = 23 then q1 else if j < 37 then v (j - 23) else b
abbrev gL (E : GI) (ad : Nat → Nat) : GG := (E.1, E.2.1, ad, E.2.2.1, E.2.2.2)
