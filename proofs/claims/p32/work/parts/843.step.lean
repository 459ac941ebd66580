/-! ===== one entry, one row changed on both sides ===== -/
theorem cr_nt {g : Gd} {t i k j q : Nat} {v : Int32} (h : t < 3 ∨ 5 < t) : cr (up g t i k v) j q = cr g j q := by
  unfold cr
  rw [up_nt (by omega), up_nt (by omega), up_nt (by omega)]
theorem cr_up3 {g : Gd} {j k j2 k2 : Nat} {v : Int32} (hk : k < 11) : cr (up g 3 j k v) j2 k2 = if j2 = j ∧ k2 = k then v else cr g j2 k2 := by
  unfold cr
  by_cases h : k2 < 11
  · rw [if_pos h, if_pos h]
    by_cases e : j2 = j ∧ k2 = k
    · rw [if_pos e, e.1, e.2, up_eq]
    · rw [if_neg e, up_ne (by omega)]
  · rw [if_neg h, if_neg h, if_neg (show ¬ (j2 = j ∧ k2 = k) by omega)]
    by_cases h2 : k2 < 17
    · rw [if_pos h2, if_pos h2, up_nt (by decide)]
    · rw [if_neg h2, if_neg h2, up_nt (by decide)]
section ST
variable {na nb nc nd : Nat} {g g2 : Gd} {m m2 : Md} {v : Int32}
theorem Rl.u0 (h : Rl na nb nc nd g m) {k : Nat} (hk : k < 7) : Rl na nb nc nd (up g 0 0 k v) (u2 m 0 k v) := by
  obtain ⟨s, n, f, b, t, d, l, r, q⟩ := h
  refine ⟨fun k2 hk2 => ?_, ⟨?_, ?_, ?_, ?_⟩, fun i2 hi2 k2 hk2 => ?_, fun i2 hi2 k2 hk2 => ?_, fun i2 hi2 k2 hk2 => ?_, fun i2 hi2 k2 hk2 => ?_, fun i2 hi2 k2 hk2 => ?_, fun i2 hi2 k2 hk2 => ?_, fun k2 hk2 => ?_⟩
  · by_cases e : k2 = k
    · rw [e, up_eq, u2_eq]
    · rw [up_nk e, s k2 hk2, u2_nk e]
  · rw [up_nk (by omega)]; exact n.1
  · rw [up_nk (by omega)]; exact n.2.1
  · rw [up_nk (by omega)]; exact n.2.2.1
  · rw [up_nk (by omega)]; exact n.2.2.2
  · rw [up_nt (by decide), f i2 hi2 k2 hk2, u2_nr (by omega)]
  · rw [up_nt (by decide), b i2 hi2 k2 hk2, u2_nr (by omega)]
  · rw [cr_nt (by decide), t i2 hi2 k2 hk2, u2_nr (by omega)]
  · rw [cr_nt (by decide), d i2 hi2 k2 hk2, u2_nr (by omega)]
  · rw [cr_nt (by decide), l i2 hi2 k2 hk2, u2_nr (by omega)]
  · rw [up_nt (by decide), r i2 hi2 k2 hk2, u2_nr (by omega)]
  · rw [up_nt (by decide), q k2 hk2, u2_nr (by omega)]
theorem Rl.u1 (h : Rl na nb nc nd g m) {i k : Nat} (hi : i < na) (hA : na ≤ 6) (hk : k < 4) : Rl na nb nc nd (up g 1 i k v) (u2 m (100 + i) k v) := by
  obtain ⟨s, n, f, b, t, d, l, r, q⟩ := h
  refine ⟨fun k2 hk2 => ?_, ⟨?_, ?_, ?_, ?_⟩, fun i2 hi2 k2 hk2 => ?_, fun i2 hi2 k2 hk2 => ?_, fun i2 hi2 k2 hk2 => ?_, fun i2 hi2 k2 hk2 => ?_, fun i2 hi2 k2 hk2 => ?_, fun i2 hi2 k2 hk2 => ?_, fun k2 hk2 => ?_⟩
  · rw [up_nt (by decide), s k2 hk2, u2_nr (by omega)]
  · rw [up_nt (by decide)]; exact n.1
  · rw [up_nt (by decide)]; exact n.2.1
  · rw [up_nt (by decide)]; exact n.2.2.1
  · rw [up_nt (by decide)]; exact n.2.2.2
  · by_cases e : i2 = i ∧ k2 = k
    · obtain ⟨rfl, rfl⟩ := e
      rw [up_eq, if_pos hi, u2_eq]
    · rw [up_ne (by omega), f i2 hi2 k2 hk2]
      by_cases z : i2 < na
      · rw [if_pos z, if_pos z]
        by_cases y : i2 = i
        · rw [u2_nk (by omega)]
        · rw [u2_nr (by omega)]
      · rw [if_neg z, if_neg z]
  · rw [up_nt (by decide), b i2 hi2 k2 hk2, u2_nr (by omega)]
  · rw [cr_nt (by decide), t i2 hi2 k2 hk2, u2_nr (by omega)]
  · rw [cr_nt (by decide), d i2 hi2 k2 hk2, u2_nr (by omega)]
  · rw [cr_nt (by decide), l i2 hi2 k2 hk2, u2_nr (by omega)]
  · rw [up_nt (by decide), r i2 hi2 k2 hk2, u2_nr (by omega)]
  · rw [up_nt (by decide), q k2 hk2, u2_nr (by omega)]
theorem Rl.u2b (h : Rl na nb nc nd g m) {i k : Nat} (hi : i < nb) (hA : nb ≤ 20) (hk : k < 6) : Rl na nb nc nd (up g 2 i k v) (u2 m (200 + i) k v) := by
  obtain ⟨s, n, f, b, t, d, l, r, q⟩ := h
  refine ⟨fun k2 hk2 => ?_, ⟨?_, ?_, ?_, ?_⟩, fun i2 hi2 k2 hk2 => ?_, fun i2 hi2 k2 hk2 => ?_, fun i2 hi2 k2 hk2 => ?_, fun i2 hi2 k2 hk2 => ?_, fun i2 hi2 k2 hk2 => ?_, fun i2 hi2 k2 hk2 => ?_, fun k2 hk2 => ?_⟩
  · rw [up_nt (by decide), s k2 hk2, u2_nr (by omega)]
  · rw [up_nt (by decide)]; exact n.1
  · rw [up_nt (by decide)]; exact n.2.1
  · rw [up_nt (by decide)]; exact n.2.2.1
  · rw [up_nt (by decide)]; exact n.2.2.2
  · rw [up_nt (by decide), f i2 hi2 k2 hk2, u2_nr (by omega)]
  · by_cases e : i2 = i ∧ k2 = k
    · obtain ⟨rfl, rfl⟩ := e
      rw [up_eq, if_pos hi, u2_eq]
    · rw [up_ne (by omega), b i2 hi2 k2 hk2]
      by_cases z : i2 < nb
      · rw [if_pos z, if_pos z]
        by_cases y : i2 = i
        · rw [u2_nk (by omega)]
        · rw [u2_nr (by omega)]
      · rw [if_neg z, if_neg z]
  · rw [cr_nt (by decide), t i2 hi2 k2 hk2, u2_nr (by omega)]
  · rw [cr_nt (by decide), d i2 hi2 k2 hk2, u2_nr (by omega)]
  · rw [cr_nt (by decide), l i2 hi2 k2 hk2, u2_nr (by omega)]
  · rw [up_nt (by decide), r i2 hi2 k2 hk2, u2_nr (by omega)]
  · rw [up_nt (by decide), q k2 hk2, u2_nr (by omega)]
theorem Rl.u3t (h : Rl na nb nc nd g m) {i k : Nat} (hi : i < 3) (hk : k < 11) : Rl na nb nc nd (up g 3 i k v) (u2 m (300 + i) k v) := by
  obtain ⟨s, n, f, b, t, d, l, r, q⟩ := h
  refine ⟨fun k2 hk2 => ?_, ⟨?_, ?_, ?_, ?_⟩, fun i2 hi2 k2 hk2 => ?_, fun i2 hi2 k2 hk2 => ?_, fun i2 hi2 k2 hk2 => ?_, fun i2 hi2 k2 hk2 => ?_, fun i2 hi2 k2 hk2 => ?_, fun i2 hi2 k2 hk2 => ?_, fun k2 hk2 => ?_⟩
  · rw [up_nt (by decide), s k2 hk2, u2_nr (by omega)]
  · rw [up_nt (by decide)]; exact n.1
  · rw [up_nt (by decide)]; exact n.2.1
  · rw [up_nt (by decide)]; exact n.2.2.1
  · rw [up_nt (by decide)]; exact n.2.2.2
  · rw [up_nt (by decide), f i2 hi2 k2 hk2, u2_nr (by omega)]
  · rw [up_nt (by decide), b i2 hi2 k2 hk2, u2_nr (by omega)]
  · by_cases e : i2 = i ∧ k2 = k
    · obtain ⟨rfl, rfl⟩ := e
      rw [cr_up3 hk, if_pos ⟨rfl, rfl⟩, u2_eq]
    · rw [cr_up3 hk, if_neg (by omega), t i2 hi2 k2 hk2]
      by_cases y : i2 = i
      · rw [u2_nk (by omega)]
      · rw [u2_nr (by omega)]
  · rw [cr_up3 hk, if_neg (by omega), d i2 hi2 k2 hk2, u2_nr (by omega)]
  · rw [cr_up3 hk, if_neg (by omega), l i2 hi2 k2 hk2, u2_nr (by omega)]
  · rw [up_nt (by decide), r i2 hi2 k2 hk2, u2_nr (by omega)]
  · rw [up_nt (by decide), q k2 hk2, u2_nr (by omega)]
theorem Rl.u3b (h : Rl na nb nc nd g m) {i k : Nat} (hi : i < nc) (hA : nc ≤ 5) (hk : k < 11) : Rl na nb nc nd (up g 3 (3 + i) k v) (u2 m (303 + i) k v) := by
  obtain ⟨s, n, f, b, t, d, l, r, q⟩ := h
  refine ⟨fun k2 hk2 => ?_, ⟨?_, ?_, ?_, ?_⟩, fun i2 hi2 k2 hk2 => ?_, fun i2 hi2 k2 hk2 => ?_, fun i2 hi2 k2 hk2 => ?_, fun i2 hi2 k2 hk2 => ?_, fun i2 hi2 k2 hk2 => ?_, fun i2 hi2 k2 hk2 => ?_, fun k2 hk2 => ?_⟩
  · rw [up_nt (by decide), s k2 hk2, u2_nr (by omega)]
  · rw [up_nt (by decide)]; exact n.1
  · rw [up_nt (by decide)]; exact n.2.1
  · rw [up_nt (by decide)]; exact n.2.2.1
  · rw [up_nt (by decide)]; exact n.2.2.2
  · rw [up_nt (by decide), f i2 hi2 k2 hk2, u2_nr (by omega)]
  · rw [up_nt (by decide), b i2 hi2 k2 hk2, u2_nr (by omega)]
  · rw [cr_up3 hk, if_neg (by omega), t i2 hi2 k2 hk2, u2_nr (by omega)]
  · by_cases e : i2 = i ∧ k2 = k
    · obtain ⟨rfl, rfl⟩ := e
      rw [cr_up3 hk, if_pos ⟨rfl, rfl⟩, if_pos hi, u2_eq]
    · rw [cr_up3 hk, if_neg (by omega), d i2 hi2 k2 hk2]
      by_cases z : i2 < nc
      · rw [if_pos z, if_pos z]
        by_cases y : i2 = i
        · rw [u2_nk (by omega)]
        · rw [u2_nr (by omega)]
      · rw [if_neg z, if_neg z]
  · rw [cr_up3 hk, if_neg (by omega), l i2 hi2 k2 hk2, u2_nr (by omega)]
  · rw [up_nt (by decide), r i2 hi2 k2 hk2, u2_nr (by omega)]
  · rw [up_nt (by decide), q k2 hk2, u2_nr (by omega)]
theorem Rl.u3l (h : Rl na nb nc nd g m) {i k : Nat} (hi : i < nd) (hA : nd ≤ 12) (hk : k < 11) : Rl na nb nc nd (up g 3 (8 + i) k v) (u2 m (308 + i) k v) := by
  obtain ⟨s, n, f, b, t, d, l, r, q⟩ := h
  refine ⟨fun k2 hk2 => ?_, ⟨?_, ?_, ?_, ?_⟩, fun i2 hi2 k2 hk2 => ?_, fun i2 hi2 k2 hk2 => ?_, fun i2 hi2 k2 hk2 => ?_, fun i2 hi2 k2 hk2 => ?_, fun i2 hi2 k2 hk2 => ?_, fun i2 hi2 k2 hk2 => ?_, fun k2 hk2 => ?_⟩
  · rw [up_nt (by decide), s k2 hk2, u2_nr (by omega)]
  · rw [up_nt (by decide)]; exact n.1
  · rw [up_nt (by decide)]; exact n.2.1
  · rw [up_nt (by decide)]; exact n.2.2.1
  · rw [up_nt (by decide)]; exact n.2.2.2
  · rw [up_nt (by decide), f i2 hi2 k2 hk2, u2_nr (by omega)]
  · rw [up_nt (by decide), b i2 hi2 k2 hk2, u2_nr (by omega)]
  · rw [cr_up3 hk, if_neg (by omega), t i2 hi2 k2 hk2, u2_nr (by omega)]
  · rw [cr_up3 hk, if_neg (by omega), d i2 hi2 k2 hk2, u2_nr (by omega)]
  · by_cases e : i2 = i ∧ k2 = k
    · obtain ⟨rfl, rfl⟩ := e
      rw [cr_up3 hk, if_pos ⟨rfl, rfl⟩, if_pos hi, u2_eq]
    · rw [cr_up3 hk, if_neg (by omega), l i2 hi2 k2 hk2]
      by_cases z : i2 < nd
      · rw [if_pos z, if_pos z]
        by_cases y : i2 = i
        · rw [u2_nk (by omega)]
        · rw [u2_nr (by omega)]
      · rw [if_neg z, if_neg z]
  · rw [up_nt (by decide), r i2 hi2 k2 hk2, u2_nr (by omega)]
  · rw [up_nt (by decide), q k2 hk2, u2_nr (by omega)]
theorem Rl.u6 (h : Rl na nb nc nd g m) {i k : Nat} (hi : i < nd) (hA : nd ≤ 12) (hk : k < 3) : Rl na nb nc nd (up g 6 i k v) (u2 m (340 + i) k v) := by
  obtain ⟨s, n, f, b, t, d, l, r, q⟩ := h
  refine ⟨fun k2 hk2 => ?_, ⟨?_, ?_, ?_, ?_⟩, fun i2 hi2 k2 hk2 => ?_, fun i2 hi2 k2 hk2 => ?_, fun i2 hi2 k2 hk2 => ?_, fun i2 hi2 k2 hk2 => ?_, fun i2 hi2 k2 hk2 => ?_, fun i2 hi2 k2 hk2 => ?_, fun k2 hk2 => ?_⟩
  · rw [up_nt (by decide), s k2 hk2, u2_nr (by omega)]
  · rw [up_nt (by decide)]; exact n.1
  · rw [up_nt (by decide)]; exact n.2.1
  · rw [up_nt (by decide)]; exact n.2.2.1
  · rw [up_nt (by decide)]; exact n.2.2.2
  · rw [up_nt (by decide), f i2 hi2 k2 hk2, u2_nr (by omega)]
  · rw [up_nt (by decide), b i2 hi2 k2 hk2, u2_nr (by omega)]
  · rw [cr_nt (by decide), t i2 hi2 k2 hk2, u2_nr (by omega)]
  · rw [cr_nt (by decide), d i2 hi2 k2 hk2, u2_nr (by omega)]
  · rw [cr_nt (by decide), l i2 hi2 k2 hk2, u2_nr (by omega)]
  · by_cases e : i2 = i ∧ k2 = k
    · obtain ⟨rfl, rfl⟩ := e
      rw [up_eq, if_pos hi, u2_eq]
    · rw [up_ne (by omega), r i2 hi2 k2 hk2]
      by_cases z : i2 < nd
      · rw [if_pos z, if_pos z]
        by_cases y : i2 = i
        · rw [u2_nk (by omega)]
        · rw [u2_nr (by omega)]
      · rw [if_neg z, if_neg z]
  · rw [up_nt (by decide), q k2 hk2, u2_nr (by omega)]
theorem Rl.u7 (h : Rl na nb nc nd g m) {k : Nat} (hk : k < 3) : Rl na nb nc nd (up g 7 0 k v) (u2 m 360 k v) := by
  obtain ⟨s, n, f, b, t, d, l, r, q⟩ := h
  refine ⟨fun k2 hk2 => ?_, ⟨?_, ?_, ?_, ?_⟩, fun i2 hi2 k2 hk2 => ?_, fun i2 hi2 k2 hk2 => ?_, fun i2 hi2 k2 hk2 => ?_, fun i2 hi2 k2 hk2 => ?_, fun i2 hi2 k2 hk2 => ?_, fun i2 hi2 k2 hk2 => ?_, fun k2 hk2 => ?_⟩
  · rw [up_nt (by decide), s k2 hk2, u2_nr (by omega)]
  · rw [up_nt (by decide)]; exact n.1
  · rw [up_nt (by decide)]; exact n.2.1
  · rw [up_nt (by decide)]; exact n.2.2.1
  · rw [up_nt (by decide)]; exact n.2.2.2
  · rw [up_nt (by decide), f i2 hi2 k2 hk2, u2_nr (by omega)]
  · rw [up_nt (by decide), b i2 hi2 k2 hk2, u2_nr (by omega)]
  · rw [cr_nt (by decide), t i2 hi2 k2 hk2, u2_nr (by omega)]
  · rw [cr_nt (by decide), d i2 hi2 k2 hk2, u2_nr (by omega)]
  · rw [cr_nt (by decide), l i2 hi2 k2 hk2, u2_nr (by omega)]
  · rw [up_nt (by decide), r i2 hi2 k2 hk2, u2_nr (by omega)]
  · by_cases e : k2 = k
    · rw [e, up_eq, u2_eq]
    · rw [up_nk e, q k2 hk2, u2_nk e]
/-- the reference's other numbers don't count -/
theorem Rl.cg (h : Rl na nb nc nd g m) (e0 : ∀ k, k < 7 → m2 0 k = m 0 k) (e : ∀ r k, 100 ≤ r → r < 400 → m2 r k = m r k) : Rl na nb nc nd g m2 := by
  obtain ⟨s, n, f, b, t, d, l, r, q⟩ := h
  refine ⟨fun k2 hk2 => (s k2 hk2).trans (e0 k2 hk2).symm, n, fun i hi k hk => ?_, fun i hi k hk => ?_, fun i hi k hk => ?_, fun i hi k hk => ?_, fun i hi k hk => ?_, fun i hi k hk => ?_, fun k hk => ?_⟩
  · rw [f i hi k hk, e _ _ (by omega) (by omega)]
  · rw [b i hi k hk, e _ _ (by omega) (by omega)]
  · rw [t i hi k hk, e _ _ (by omega) (by omega)]
  · rw [d i hi k hk, e _ _ (by omega) (by omega)]
  · rw [l i hi k hk, e _ _ (by omega) (by omega)]
  · rw [r i hi k hk, e _ _ (by omega) (by omega)]
  · rw [q k hk, e _ _ (by omega) (by omega)]
theorem Rl.th (h : Rl na nb nc nd g m) : Rl na nb nc nd g (u2 m 0 20 v) := h.cg (fun k hk => u2_nk (by omega)) (fun r k h1 _ => u2_nr (by omega))
/-- a row of the mixes changed whole -/
theorem Rl.row (h : Rl na nb nc nd g m) {j : Nat} (hj : j < 20) (ho : only3 g g2 j) (hb : ∀ i, j = 3 + i → i < 5 → i < nc) (hl : ∀ i, j = 8 + i → i < nd) (hr : ∀ k, k < 23 → cr g2 j k = m2 (300 + j) k) (e : ∀ r k, r ≠ 300 + j → r < 400 → m2 r k = m r k) : Rl na nb nc nd g2 m2 := by
  obtain ⟨s, n, f, b, t, d, l, r, q⟩ := h
  have o9 : ∀ t i k, t < 3 ∨ 5 < t → g2 t i k = g t i k := fun t i k h => ho t i k (by omega)
  refine ⟨fun k2 hk2 => ?_, ⟨?_, ?_, ?_, ?_⟩, fun i hi k hk => ?_, fun i hi k hk => ?_, fun i hi k hk => ?_, fun i hi k hk => ?_, fun i hi k hk => ?_, fun i hi k hk => ?_, fun k hk => ?_⟩
  · rw [o9 _ _ _ (by decide), s k2 hk2, e _ _ (by omega) (by omega)]
  · rw [o9 _ _ _ (by decide)]; exact n.1
  · rw [o9 _ _ _ (by decide)]; exact n.2.1
  · rw [o9 _ _ _ (by decide)]; exact n.2.2.1
  · rw [o9 _ _ _ (by decide)]; exact n.2.2.2
  · rw [o9 _ _ _ (by decide), f i hi k hk, e _ _ (by omega) (by omega)]
  · rw [o9 _ _ _ (by decide), b i hi k hk, e _ _ (by omega) (by omega)]
  · by_cases q : i = j
    · rw [q]; exact hr k hk
    · rw [ho.row q, t i hi k hk, e _ _ (by omega) (by omega)]
  · by_cases q : 3 + i = j
    · rw [q, hr k hk, if_pos (hb i q.symm hi), ← q, show 300 + (3 + i) = 303 + i by omega]
    · rw [ho.row q, d i hi k hk, e _ _ (by omega) (by omega)]
  · by_cases q : 8 + i = j
    · rw [q, hr k hk, if_pos (hl i q.symm), ← q, show 300 + (8 + i) = 308 + i by omega]
    · rw [ho.row q, l i hi k hk, e _ _ (by omega) (by omega)]
  · rw [o9 _ _ _ (by decide), r i hi k hk, e _ _ (by omega) (by omega)]
  · rw [o9 _ _ _ (by decide), q k hk, e _ _ (by omega) (by omega)]
/-- the trial lot may be anything -/
theorem Rl.trial (h : Rl na nb nc nd g m) (ho : only3 g g2 20) : Rl na nb nc nd g2 m := by
  obtain ⟨s, n, f, b, t, d, l, r, q⟩ := h
  have o9 : ∀ t i k, t < 3 ∨ 5 < t → g2 t i k = g t i k := fun t i k h => ho t i k (by omega)
  refine ⟨fun k2 hk2 => ?_, ⟨?_, ?_, ?_, ?_⟩, fun i hi k hk => ?_, fun i hi k hk => ?_, fun i hi k hk => ?_, fun i hi k hk => ?_, fun i hi k hk => ?_, fun i hi k hk => ?_, fun k hk => ?_⟩
  · rw [o9 _ _ _ (by decide), s k2 hk2]
  · rw [o9 _ _ _ (by decide)]; exact n.1
  · rw [o9 _ _ _ (by decide)]; exact n.2.1
  · rw [o9 _ _ _ (by decide)]; exact n.2.2.1
  · rw [o9 _ _ _ (by decide)]; exact n.2.2.2
  · rw [o9 _ _ _ (by decide), f i hi k hk]
  · rw [o9 _ _ _ (by decide), b i hi k hk]
  · rw [ho.row (by omega), t i hi k hk]
  · rw [ho.row (by omega), d i hi k hk]
  · rw [ho.row (by omega), l i hi k hk]
  · rw [o9 _ _ _ (by decide), r i hi k hk]
  · rw [o9 _ _ _ (by decide), q k hk]
/-! the invariant over rows that are the same -/
theorem mixI.cg {r r2 : Nat} {K : Int} (h : mixI m r K) (e : ∀ k, k < 23 → m2 r2 k = m r k) : mixI m2 r2 K := by
  obtain ⟨h1, h2, h3, h4, h5⟩ := h
  refine ⟨fun f hf => ?_, ?_, ?_, ?_, ?_⟩
  · rw [e _ (by omega), e _ (by omega)]; exact h1 f hf
  · rw [e 0 (by decide), e 11 (by decide), e 12 (by decide), e 13 (by decide), e 14 (by decide), e 15 (by decide), e 16 (by decide)]; exact h2
  · rw [e 0 (by decide)]; exact h3
  · rw [e 1 (by decide)]; exact h4
  · rw [e 1 (by decide)]; exact h5
theorem ptI.cg {r r2 : Nat} (h : ptI m r) (e : m2 r2 3 = m r 3) (hh : (m 0 0).toInt ≤ (m2 0 0).toInt) : ptI m2 r2 := by
  unfold ptI at h ⊢
  rw [e]; omega
theorem moI.cg {r r2 : Nat} (h : moI m r) (e : ∀ k, k < 23 → m2 r2 k = m r k) (hh : (m 0 0).toInt ≤ (m2 0 0).toInt) : moI m2 r2 := by
  unfold moI at h ⊢
  rw [e 5 (by decide), e 7 (by decide)]; omega
theorem tankI.cg {i : Nat} (h : tankI m i) (e : ∀ k, k < 23 → m2 (300 + i) k = m (300 + i) k) (hh : (m 0 0).toInt ≤ (m2 0 0).toInt) : tankI m2 i := by
  obtain ⟨h1, h2, h3⟩ := h
  refine ⟨h1.cg e, h2.cg (e 3 (by decide)) hh, ?_⟩
  rw [e 4 (by decide), e 5 (by decide), e 6 (by decide), e 7 (by decide), e 10 (by decide)]; exact h3
theorem bedI.cg {i : Nat} (h : bedI m i) (e : ∀ k, k < 23 → m2 (303 + i) k = m (303 + i) k) (hh : (m 0 0).toInt ≤ (m2 0 0).toInt) : bedI m2 i := by
  obtain ⟨h1, h2, h3, h4, h5⟩ := h
  refine ⟨h1.cg e, h2.cg (e 3 (by decide)) hh, ?_, h4.cg e hh, ?_⟩
  · unfold mtI at h3 ⊢; rw [e 4 (by decide)]; exact h3
  · rw [e 8 (by decide), e 9 (by decide), e 0 (by decide), e 6 (by decide), e 7 (by decide), e 2 (by decide), e 10 (by decide)]; exact h5
theorem lotI.cg {i : Nat} (h : lotI m i) (e : ∀ k, k < 23 → m2 (308 + i) k = m (308 + i) k) (hh : (m 0 0).toInt ≤ (m2 0 0).toInt) : lotI m2 i := by
  obtain ⟨h1, h2, h3, h4, h5, h6⟩ := h
  refine ⟨h1.cg e, h2.cg (e 3 (by decide)) hh, ?_, h4.cg e hh, ?_, ?_⟩
  · unfold mtI at h3 ⊢; rw [e 4 (by decide)]; exact h3
  · rw [e 2 (by decide)]; omega
  · rw [e 10 (by decide), e 0 (by decide)]; exact h6
theorem baskI.cg {i na2 : Nat} (h : baskI na m i) (hn : na ≤ na2) (e0 : m2 (200 + i) 0 = m (200 + i) 0) (e1 : m2 (200 + i) 1 = m (200 + i) 1) (e2 : m2 (200 + i) 2 = m (200 + i) 2) (e5 : m2 (200 + i) 5 = m (200 + i) 5) : baskI na2 m2 i := by
  obtain ⟨h1, h2, h3, h4⟩ := h
  refine ⟨?_, ?_, ?_, ?_⟩
  · rw [e0]; omega
  · rw [e1]; exact h2
  · rw [e2]; exact h3
  · rw [e5]; exact h4
theorem sumF_cg {f f2 : Nat → Int} : ∀ n, (∀ i, i < n → f2 i = f i) → sumF f2 n = sumF f n
  | 0, _ => rfl
  | n + 1, h => by
    show sumF f2 n + f2 n = sumF f n + f n
    rw [sumF_cg n (fun i hi => h i (by omega)), h n (by omega)]
theorem sumF_set {f f2 : Nat → Int} {x : Nat} : ∀ n, x < n → (∀ i, i < n → i ≠ x → f2 i = f i) → sumF f2 n = sumF f n + (f2 x - f x)
  | 0, h, _ => absurd h (by omega)
  | n + 1, h, h2 => by
    show sumF f2 n + f2 n = sumF f n + f n + (f2 x - f x)
    by_cases e : x = n
    · subst e
      rw [sumF_cg x (fun i hi => h2 i (by omega) (by omega))]; omega
    · rw [sumF_set n (by omega) (fun i hi hn => h2 i (by omega) hn), h2 n (by omega) (fun z => e z.symm)]; omega
theorem sumF_le {f : Nat → Int} : ∀ n, (∀ i, i < n → 0 ≤ f i) → ∀ x, x < n → f x ≤ sumF f n
  | 0, _, x, h => absurd h (by omega)
  | n + 1, h, x, hx => by
    have h0 := h n (by omega)
    have hs : ∀ n, (∀ i, i < n → 0 ≤ f i) → 0 ≤ sumF f n := by
      intro n
      induction n with
      | zero => intro _; exact Int.le_refl _
      | succ n ih => intro h; have := ih (fun i hi => h i (by omega)); have := h n (by omega); show 0 ≤ sumF f n + f n; omega
    show f x ≤ sumF f n + f n
    by_cases e : x = n
    · subst e; have := hs x (fun i hi => h i (by omega)); omega
    · have := sumF_le n (fun i hi => h i (by omega)) x (by omega); omega
/-- the invariant: what has changed must be told -/
theorem Iv.of (hI : Iv na nb nc nd m) (hh : (m 0 0).toInt ≤ (m2 0 0).toInt ∧ (m2 0 0).toInt ≤ 20000) (hf : ∀ i, i < na → m2 (100 + i) 0 = m (100 + i) 0) (hb : ∀ i, i < nb → (∀ k, k = 0 ∨ k = 1 ∨ k = 2 ∨ k = 5 → m2 (200 + i) k = m (200 + i) k)) (ht : ∀ i, i < 3 → (∀ k, k < 23 → m2 (300 + i) k = m (300 + i) k) ∨ tankI m2 i) (hd : ∀ i, i < nc → (∀ k, k < 23 → m2 (303 + i) k = m (303 + i) k) ∨ bedI m2 i) (hl : ∀ i, i < nd → (∀ k, k < 23 → m2 (308 + i) k = m (308 + i) k) ∨ lotI m2 i) (hs : sumF (kiL m2) nd ≤ 150 * nd) : Iv na nb nc nd m2 := by
  obtain ⟨z, h0, i1, i2, i3, i4, i5, i6⟩ := hI
  refine ⟨z, ⟨by omega, hh.2⟩, fun i hi => ?_, fun i hi => ?_, fun i hi => ?_, fun i hi => ?_, fun i hi => ?_, hs⟩
  · rw [hf i hi]; exact i1 i hi
  · exact (i2 i hi).cg (Nat.le_refl _) (hb i hi 0 (by omega)) (hb i hi 1 (by omega)) (hb i hi 2 (by omega)) (hb i hi 5 (by omega))
  · exact (ht i hi).elim (fun e => (i3 i hi).cg e hh.1) id
  · exact (hd i hi).elim (fun e => (i4 i hi).cg e hh.1) id
  · exact (hl i hi).elim (fun e => (i5 i hi).cg e hh.1) id
/-- where no lot's kilos have changed -/
theorem sumK_same (hI : Iv na nb nc nd m) (e : ∀ i, i < nd → m2 (308 + i) 0 = m (308 + i) 0) : sumF (kiL m2) nd ≤ 150 * nd := by
  have h := hI.2.2.2.2.2.2.2
  rw [sumF_cg (f := kiL m) nd (fun i hi => by show (m2 (308 + i) 0).toInt = _; rw [e i hi]; rfl)]
  exact h
/-- where nothing that counts has changed -/
theorem Iv.cg (hI : Iv na nb nc nd m) (h0 : m2 0 0 = m 0 0) (hf : ∀ i, i < na → m2 (100 + i) 0 = m (100 + i) 0) (hb : ∀ i, i < nb → (∀ k, k = 0 ∨ k = 1 ∨ k = 2 ∨ k = 5 → m2 (200 + i) k = m (200 + i) k)) (e : ∀ r k, 300 ≤ r → r < 320 → m2 r k = m r k) : Iv na nb nc nd m2 := by
  have z := hI.1
  exact hI.of ⟨by rw [h0]; exact Int.le_refl _, by rw [h0]; exact hI.2.1.2⟩ hf hb (fun i hi => Or.inl (fun k _ => e _ k (by omega) (by omega))) (fun i hi => Or.inl (fun k _ => e _ k (by omega) (by omega))) (fun i hi => Or.inl (fun k _ => e _ k (by omega) (by omega))) (sumK_same hI (fun i hi => e _ _ (by omega) (by omega)))
theorem Iv.th (hI : Iv na nb nc nd m) : Iv na nb nc nd (u2 m 0 20 v) := hI.cg (u2_nk (by decide)) (fun i _ => u2_nr (by omega)) (fun i _ k _ => u2_nr (by omega)) (fun r k _ _ => u2_nr (by omega))
end ST
