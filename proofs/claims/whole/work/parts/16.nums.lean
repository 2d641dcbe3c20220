/-! numbers -/
theorem fa_lt (a b : Int32) : a < b ↔ a.toInt < b.toInt := Int32.lt_iff_toInt_lt
theorem fa_le (a b : Int32) : a ≤ b ↔ a.toInt ≤ b.toInt := Int32.le_iff_toInt_le
theorem fa_eq (a b : Int32) : a = b ↔ a.toInt = b.toInt := Int32.toInt_inj.symm
theorem fb_rng (x : Int32) : -2147483648 ≤ x.toInt ∧ x.toInt < 2147483648 := by
  have h1 := Int32.le_toInt x
  have h2 := Int32.toInt_lt x
  omega
theorem tA (x y : Int32) : (x + y).toInt = x.toInt + y.toInt ∨ (x + y).toInt = x.toInt + y.toInt - 4294967296 ∨ (x + y).toInt = x.toInt + y.toInt + 4294967296 := by
  have h1 := fb_rng x
  have h2 := fb_rng y
  have h3 := fb_rng (x + y)
  rw [Int32.toInt_add] at h3 ⊢
  rw [Int.bmod_def] at h3 ⊢
  omega
theorem tS (x y : Int32) : (x - y).toInt = x.toInt - y.toInt ∨ (x - y).toInt = x.toInt - y.toInt - 4294967296 ∨ (x - y).toInt = x.toInt - y.toInt + 4294967296 := by
  have h1 := fb_rng x
  have h2 := fb_rng y
  have h3 := fb_rng (x - y)
  rw [Int32.toInt_sub] at h3 ⊢
  rw [Int.bmod_def] at h3 ⊢
  omega
theorem tcl (x : Int32) : x.toNatClampNeg = x.toInt.toNat := rfl
theorem tm1 : (-1 : Int32).toInt = -1 := rfl
theorem tm2 : (-2 : Int32).toInt = -2 := rfl
theorem tm3 : (-3 : Int32).toInt = -3 := rfl
theorem tm4 : (-4 : Int32).toInt = -4 := rfl
theorem tm9 : (-9 : Int32).toInt = -9 := rfl
theorem tm10 : (-10 : Int32).toInt = -10 := rfl
theorem tm11 : (-11 : Int32).toInt = -11 := rfl
theorem tm12 : (-12 : Int32).toInt = -12 := rfl
theorem tm13 : (-13 : Int32).toInt = -13 := rfl
theorem tm14 : (-14 : Int32).toInt = -14 := rfl
theorem tm100 : (-100 : Int32).toInt = -100 := rfl
/-- a natural number below 2^31, as an int: its value (bounds by the side condition, for simp) -/
theorem nI_ti {n : Nat} : (nI n).toInt = (n : Int).bmod 4294967296 := by
  show (Int32.ofNat n).toInt = _
  rw [Int32.toInt_ofNat']
theorem nI_v {n : Nat} (h : n < 2147483648) : (nI n).toInt = n := nI_toInt (by omega)
theorem nI_x {x : Int32} (h : 0 ≤ x.toInt) : x = nI x.toInt.toNat := by
  rw [fa_eq, nI_v]
  · omega
  · have := fb_rng x
    omega
abbrev inR (x : Int32) (lo hi : Int) : Prop := lo ≤ x.toInt ∧ x.toInt ≤ hi
theorem inR_in {x : Int32} {hi : Int} {n : Nat} (h : inR x 0 hi) (hn : hi < n) : vp_in x n := by
  rw [vp_in_iff]
  omega
theorem tcl_lt {x : Int32} {hi : Int} {n : Nat} (h : inR x 0 hi) (hn : hi < n) : x.toNatClampNeg < n := vin_lt (inR_in h hn)
theorem cl_n (n : Nat) (h : n < 2147483648) : (nI n).toNatClampNeg = n := nI_clamp (by omega)
/-- branches on an answer that is 1 or 0 -/
theorem b1n {A B : Prop} (a : A) : ((¬ (1 : Int32) = 0 → A) ∧ ((1 : Int32) = 0 → B)) := ⟨fun _ => a, fun h => absurd h (by decide)⟩
theorem b1p {A B : Prop} (a : A) : (((1 : Int32) = 0 → B) ∧ (¬ (1 : Int32) = 0 → A)) := ⟨fun h => absurd h (by decide), fun _ => a⟩
theorem b0n {A B : Prop} (b : B) : ((¬ (0 : Int32) = 0 → A) ∧ ((0 : Int32) = 0 → B)) := ⟨fun h => absurd rfl h, fun _ => b⟩
theorem b0p {A B : Prop} (b : B) : (((0 : Int32) = 0 → B) ∧ (¬ (0 : Int32) = 0 → A)) := ⟨fun _ => b, fun h => absurd rfl h⟩
theorem brn {c A B : Prop} (h : ¬ c) (b : B) : (c → A) ∧ (¬ c → B) := ⟨fun q => absurd q h, fun _ => b⟩
theorem brt {c A B : Prop} (h : c) (a : A) : (c → A) ∧ (¬ c → B) := ⟨fun _ => a, fun q => absurd h q⟩
theorem brn' {c A B : Prop} (h : ¬ c) (b : B) : (¬ c → B) ∧ (c → A) := ⟨fun _ => b, fun q => absurd q h⟩
theorem brt' {c A B : Prop} (h : c) (a : A) : (¬ c → B) ∧ (c → A) := ⟨fun q => absurd h q, fun _ => a⟩
