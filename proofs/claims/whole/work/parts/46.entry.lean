/-! the store that the constructors leave; the entry -/
theorem start_sheets {E : GI} {q0 q1 b : Nat} {u v : Nat → Nat} {H : Heap} (h : va_at E.2.1 classes (u 1, .inl (E.2.2.2, 4, .inr (.inr (.inr (.inr (va_up (va_up (va_up (va_up (fun _ => none) (Int32.toNatClampNeg 0) (some (u 2))) (Int32.toNatClampNeg 1) (some (u 3))) (Int32.toNatClampNeg 2) (some (u 4))) (Int32.toNatClampNeg 3) (some (u 5)))))))) H) : va_at E.2.1 classes (adL q0 u q1 v b 1, cel (gL E (adL q0 u q1 v b)) 1 (sig0 1)) H := by
  have h1 : H[u 1]? = some (vp_cell E.2.2.2 (4, .inr (.inr (.inr (.inr (va_up (va_up (va_up (va_up (fun _ => none) (Int32.toNatClampNeg 0) (some (u 2))) (Int32.toNatClampNeg 1) (some (u 3))) (Int32.toNatClampNeg 2) (some (u 4))) (Int32.toNatClampNeg 3) (some (u 5)))))))) := h
  show H[u 1]? = some (vp_cell E.2.2.2 (4, .inr (.inr (.inr (.inr (fun i => some (adL q0 u q1 v b (2 + i))))))))
  rw [h1, vp_cell_q, vp_cell_q]
  congr 1
section ENTRY
variable {E : GI} {q0 q1 b : Nat} {u v : Nat → Nat} {H : Heap}

theorem start_P (hP : va_P E.2.1 classes (wX4 E q0 u ++ wX5 E q1 v) H) : va_P E.2.1 classes (WS (gL E (adL q0 u q1 v b)) sig0) H := by
  intro k q hk
  obtain ⟨hk, rfl⟩ := WS_ge _ _ hk
  match k, hk with
  | 0, _ => exact hP 0 _ rfl
  | 1, _ => exact start_sheets (hP 1 _ rfl)
  | 2, _ => exact hP 2 _ rfl
  | 3, _ => exact hP 3 _ rfl
  | 4, _ => exact hP 4 _ rfl
  | 5, _ => exact hP 5 _ rfl
  | 6, _ => exact hP 6 _ rfl
  | 7, _ => exact hP 7 _ rfl
  | 8, _ => exact hP 8 _ rfl
  | 9, _ => exact hP 9 _ rfl
  | 10, _ => exact hP 10 _ rfl
  | 11, _ => exact hP 11 _ rfl
  | 12, _ => exact hP 12 _ rfl
  | 13, _ => exact hP 13 _ rfl
  | 14, _ => exact hP 14 _ rfl
  | 15, _ => exact hP 15 _ rfl
  | 16, _ => exact hP 16 _ rfl
  | 17, _ => exact hP 17 _ rfl
  | 18, _ => exact hP 18 _ rfl
  | 19, _ => exact hP 19 _ rfl
  | 20, _ => exact hP 20 _ rfl
  | 21, _ => exact hP 21 _ rfl
  | 22, _ => exact hP 22 _ rfl
  | 23, _ => exact hP 23 _ rfl
  | 24, _ => exact hP 24 _ rfl
  | 25, _ => exact hP 25 _ rfl
  | 26, _ => exact hP 26 _ rfl
  | 27, _ => exact hP 27 _ rfl
  | 28, _ => exact hP 28 _ rfl
  | 29, _ => exact hP 29 _ rfl
  | 30, _ => exact hP 30 _ rfl
  | 31, _ => exact hP 31 _ rfl
  | 32, _ => exact hP 32 _ rfl
  | 33, _ => exact hP 33 _ rfl
  | 34, _ => exact hP 34 _ rfl
  | 35, _ => exact hP 35 _ rfl
  | 36, _ => exact hP 36 _ rfl
  | k + 37, h => exact absurd h (by omega)
theorem start_at (E : GI) (q0 q1 b : Nat) (u v : Nat → Nat) : ∀ j, j < 37 → ∃ x : va_E, (wX4 E q0 u ++ wX5 E q1 v)[j]? = some (adL q0 u q1 v b j, x) := by
  intro k hk
  match k, hk with
  | 0, _ => exact ⟨_, rfl⟩
  | 1, _ => exact ⟨_, rfl⟩
  | 2, _ => exact ⟨_, rfl⟩
  | 3, _ => exact ⟨_, rfl⟩
  | 4, _ => exact ⟨_, rfl⟩
  | 5, _ => exact ⟨_, rfl⟩
  | 6, _ => exact ⟨_, rfl⟩
  | 7, _ => exact ⟨_, rfl⟩
  | 8, _ => exact ⟨_, rfl⟩
  | 9, _ => exact ⟨_, rfl⟩
  | 10, _ => exact ⟨_, rfl⟩
  | 11, _ => exact ⟨_, rfl⟩
  | 12, _ => exact ⟨_, rfl⟩
  | 13, _ => exact ⟨_, rfl⟩
  | 14, _ => exact ⟨_, rfl⟩
  | 15, _ => exact ⟨_, rfl⟩
  | 16, _ => exact ⟨_, rfl⟩
  | 17, _ => exact ⟨_, rfl⟩
  | 18, _ => exact ⟨_, rfl⟩
  | 19, _ => exact ⟨_, rfl⟩
  | 20, _ => exact ⟨_, rfl⟩
  | 21, _ => exact ⟨_, rfl⟩
  | 22, _ => exact ⟨_, rfl⟩
  | 23, _ => exact ⟨_, rfl⟩
  | 24, _ => exact ⟨_, rfl⟩
  | 25, _ => exact ⟨_, rfl⟩
  | 26, _ => exact ⟨_, rfl⟩
  | 27, _ => exact ⟨_, rfl⟩
  | 28, _ => exact ⟨_, rfl⟩
  | 29, _ => exact ⟨_, rfl⟩
  | 30, _ => exact ⟨_, rfl⟩
  | 31, _ => exact ⟨_, rfl⟩
  | 32, _ => exact ⟨_, rfl⟩
  | 33, _ => exact ⟨_, rfl⟩
  | 34, _ => exact ⟨_, rfl⟩
  | 35, _ => exact ⟨_, rfl⟩
  | 36, _ => exact ⟨_, rfl⟩
  | k + 37, h => exact absurd h (by omega)
theorem start_apt {A : Nat → Prop} (hD : va_D A (wX4 E q0 u ++ wX5 E q1 v)) : Apt (gL E (adL q0 u q1 v b)) ∧ ∀ j, j < 37 → A (adL q0 u q1 v b j) := by
  refine ⟨fun i j hi hj he => ?_, fun j hj => ?_⟩
  · obtain ⟨x, hx⟩ := start_at E q0 q1 b u v i hi
    obtain ⟨y, hy⟩ := start_at E q0 q1 b u v j hj
    exact hD.1 i j _ _ hx hy he
  · obtain ⟨x, hx⟩ := start_at E q0 q1 b u v j hj
    exact hD.2 j _ hx
end ENTRY
/-- behind both constructors: from the list of cells to the store -/
theorem VI_store {E : GI} {L : Nat} {xs : Nat → Int32} {b q0 q1 : Nat} {u v : Nat → Nat} (hv : VL (gL E (adL q0 u q1 v b)) L xs 18 (lsL 0) [] sig0) : VI E room_1 37 705 zL AFL (EXL b L xs) ML 18 [(3, .int 0), (2, .ref q1), (1, .ref q0), (0, .ref b)] [] (wX4 E q0 u ++ wX5 E q1 v) := by
  intro p e s m args below meth c H locs lA C hP hD hS hl
  obtain ⟨c1, c2, c3, c4, c5, c6, c7, c8, c9, c10, c11, c12⟩ := C
  exact hv p e s m args below meth c H locs lA ⟨c1, c2, c3, c4, c5, c6, c7, c8, start_apt hD, c12⟩ (start_P hP) hS hl
theorem VI_law {E : GI} {L : Nat} {xs : Nat → Int32} (b : Nat) (hL : L ≤ 3072) : VI E room_1 0 0 zL AFL (EXL b L xs) ML 0 [(0, .ref b)] [] [] := by
  refine VI_new 4 [.null, .null, .null, .null, .null, .int 0, .int 0, .int 0] dL_law_0 nl_L_7 (fun q0 => ?_)
  refine VI_dup dL_law_3 ?_
  refine VI_call (wr := []) 0 dL_law_4 il_L_9 (mi_X4 E q0) (fun u => ?_)
  refine VI_astore_n dL_law_7 ?_
  refine VI_new 5 [.int 0, .int 0, .null, .null, .null, .int 0, .null, .null, .null, .int 0, .int 0, .null, .null, .null, .int 0, .int 0, .null, .int 0, .int 0, .null, .null, .null] dL_law_8 nl_L_10 (fun q1 => ?_)
  refine VI_dup dL_law_11 ?_
  refine VI_call (wr := wX4 E q0 u) 23 dL_law_12 il_L_12 (mi_X5 E q1) (fun v => ?_)
  refine VI_astore_n dL_law_15 ?_
  refine VI_iconst 0 dL_law_16 ?_
  refine VI_istore_n dL_law_17 ?_
  exact VI_w rfl (VI_store (law_loop hL L 0 sig0 (by omega) (by omega) rel0))
set_option maxHeartbeats 4000000 in
/-- THE LAW, from its entry -/
theorem whole_start {p : Program} {e : Env} {s : State} {m : MethodId} {below : List Frame} {meth : Method} {c : Code} (l : Launch) {b L : Nat} {xs : Nat → Int32} (hL : L ≤ 3072) (C0 : lw_At p s m meth c b L xs) : W p l e room_1 s m #[Value.ref b] below meth c s.heap [] 0 0 (lw_Z below #[Value.ref b] s) (entryFrame m ([Value.ref b] : List Value).toArray 4) := by
  obtain ⟨hx, hb, hr, hml, hown, hts, hX, hbl, hlocks, hgv⟩ := C0
  obtain ⟨D, cI, cS, hK⟩ := kn_start hts
  have hO : va_AO RX3 s := va_AO.of (hts (.arrayOver (.object RX3)) (List.mem_of_getElem? (i := 64) (by decide +kernel)))
  have hts2 : ∀ w ∈ tblU, w.before #[Value.ref b] s = true := fun w hw => hts w (List.mem_filter.mp hw).1
  rw [lg_entry_eq]
  have hl := lv_entry ([.ref b]) (n := 4) (Nat.le_of_ble_eq_true rfl)
  exact VI_law (E := (l, D, cI, cS)) b hL p e s m _ below meth c s.heap [] _ ⟨hx, hb, hr, hml, hown, hts2, hlocks, hK, fun q h => h, hO, fun h => absurd h (by decide), hX, hbl⟩ (fun k q h => by simp at h) ⟨fun i j p q h => by simp at h, fun k q h => by simp at h⟩ va_S.rf hl
