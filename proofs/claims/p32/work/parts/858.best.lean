/-! ===== the best blend ===== -/
section BB
variable {na nb nc nd T : Nat} {g g2 : Gd} {m m2 : Md}
def oddC (k : Nat) : Prop := k = 6 ∨ k = 8 ∨ k = 9 ∨ k = 10
theorem copy_cr (g : Gd) {i o : Nat} (hio : o ≠ i) : ∀ k, k < 23 → ¬ oddC k → cr (fX3_copyFrom g i o) (8 + i) k = if k = 1 then fX6_meanByKilos 0 0 (g 3 (8 + o) 0) (g 3 (8 + o) 1) else cr g (8 + o) k := by
  have e2 : ¬ 8 + o = 8 + i := by omega
  refine all23 ?_ ?_ ?_ ?_ ?_ ?_ ?_ ?_ ?_ ?_ ?_ ?_ ?_ ?_ ?_ ?_ ?_ ?_ ?_ ?_ ?_ ?_ ?_ <;> simp [oddC, cr, up, fX3_copyFrom, fX4_addMix, fX4_clear, hio]
theorem copy_o (g : Gd) (i o : Nat) : only3 g (fX3_copyFrom g i o) (8 + i) := by
  unfold fX3_copyFrom
  exact (((((((clear_o g (8 + i)).trans9 (addMix_o _ _ _)).upd (by decide) (by decide)).upd (by decide) (by decide)).upd (by decide) (by decide)).upd (by decide) (by decide)).upd (by decide) (by decide))
theorem fault_row {r : Nat} {T2 : Nat} {x : Int32} (e : ∀ k, k < 23 → ¬ oddC k → m2 r k = m r k) : fX7_fault na nb nc nd T2 m2 r x = fX7_fault na nb nc nd T m r x := by
  unfold fX7_fault
  rw [e 1 (by decide) (by unfold oddC; decide), e 2 (by decide) (by unfold oddC; decide), e 3 (by decide) (by unfold oddC; decide), e 4 (by decide) (by unfold oddC; decide), e 5 (by decide) (by unfold oddC; decide), e 7 (by decide) (by unfold oddC; decide)]
theorem heightL_row {r : Nat} {T2 : Nat} (e : ∀ k, k < 23 → ¬ oddC k → m2 r k = m r k) (ef : ∀ f, f < 6 → m2 (100 + f) 0 = m (100 + f) 0) (hna : na ≤ 6) : ∀ (n k : Nat) (a : Int32), k + n = na → fX7_scoreOf_L12 na nb nc nd T2 m2 r n k a = fX7_scoreOf_L12 na nb nc nd T m r n k a := by
  intro n
  induction n with
  | zero => intro k a _; rfl
  | succ n ih =>
    intro k a hk
    rw [fX7_scoreOf_L12, fX7_scoreOf_L12, e (11 + k) (by omega) (by unfold oddC; omega), ef k (by omega)]
    exact ih (k + 1) _ (by omega)
theorem score_row {r : Nat} {T2 : Nat} (e : ∀ k, k < 23 → ¬ oddC k → m2 r k = m r k) (ef : ∀ f, f < 6 → m2 (100 + f) 0 = m (100 + f) 0) (hna : na ≤ 6) : fX7_scoreOf na nb nc nd T2 m2 r = fX7_scoreOf na nb nc nd T m r := by
  unfold fX7_scoreOf
  rw [heightL_row (T := T) e ef hna na 0 0 (by omega)]
  rw [e 0 (by decide) (by unfold oddC; decide), e 4 (by decide) (by unfold oddC; decide)]
  simp only [fault_row (na := na) (nb := nb) (nc := nc) (nd := nd) (T := T) (T2 := T2) e]
theorem blended {i o : Nat} (h : Rl na nb nc nd g m) (hI : Iv na nb nc nd m) (hi : i < nd) (ho : o < nd) (hio : i ≠ o) (c1 : m (308 + i) 10 = 1) (c2 : m (308 + o) 10 = 1) :
    (fX6_blendedScore g i o).1 = fX7_scoreOf na nb nc nd (T + 1) (fX7_blendOf na nb nc nd T m (308 + i) (308 + o)) (400 + T) ∧ Rl na nb nc nd (fX6_blendedScore g i o).2 m ∧ Tr (fX6_blendedScore g i o).2 := by
  obtain ⟨z, zh, i1, i2, i3, i4, i5, i6⟩ := id hI
  have lx := i5 i hi
  have ly := i5 o ho
  have px := lx.2.2.2.2.2.2 c1
  have py := ly.2.2.2.2.2.2 c2
  have kx := lx.1.k0
  have ky := ly.1.k0
  have nn : ∀ i, i < nd → 0 ≤ kiL m i := fun i hi => (i5 i hi).1.k0.1
  have two := sumF_two (f := kiL m) (n := nd) nn hi ho hio
  have hsum : (m (308 + i) 0).toInt + (m (308 + o) 0).toInt ≤ 1800 := by
    have : (m (308 + i) 0).toInt + (m (308 + o) 0).toInt ≤ sumF (kiL m) nd := two
    omega
  have hk : ¬ m (308 + i) 0 + m (308 + o) 0 ≤ 0 := pos_le (by omega) (by omega)
  have ci : 12 ≠ i := by omega
  have co : 12 ≠ o := by omega
  have oC := copy_o g 12 i
  have oT := takeIn_o (fX3_copyFrom g 12 i) 12 o
  have q0 : (0 : Int32).toInt = 0 := rfl
  -- the copy's row, as a row of the reference
  have cc : ∀ k, k < 23 → ¬ oddC k → cr (fX3_copyFrom g 12 i) (8 + 12) k = m (308 + i) k := by
    intro k hk1 hk2
    rw [copy_cr g ci.symm k hk1 hk2]
    by_cases q : k = 1
    · rw [if_pos q, q, h.l3 hI hi (k := 0) (by decide), h.l3 hI hi (k := 1) (by decide)]
      unfold fX6_meanByKilos
      rw [if_neg (by rw [Int32.zero_add, le_ti, q0]; omega)]
      exact mean_0 px (by omega) lx.1.2.2.2.1 (by have := lx.1.2.2.2.2; omega)
    · rw [if_neg q]; exact h.lr hI hi hk1
  have hrow := takeIn_eq (na := na) (nb := nb) (nc := nc) (nd := nd) (T := T) (g := fX3_copyFrom g 12 i) (m := rz m 399 (fun k => cr (fX3_copyFrom g 12 i) (8 + 12) k)) (i := 12) (o := o) (r := 399) (p := 308 + o) (fun k _ => (rz_eq _ _ _ _).symm) (fun k hk => by rw [oC.row (by omega), rz_nr (by omega)]; exact h.lr hI ho hk) co (by omega) (by omega) (by rw [rz_eq, rz_nr (by omega), cc 0 (by decide) (by unfold oddC; decide)]; exact hk)
  have hB := blendOf_at (na := na) (nb := nb) (nc := nc) (nd := nd) (T := T) (m := m) (r := 308 + i) (o := 308 + o) (by omega) (by omega)
  have hB2 := blendOf_at (na := na) (nb := nb) (nc := nc) (nd := nd) (T := T) (m := rz m 399 (fun k => cr (fX3_copyFrom g 12 i) (8 + 12) k)) (r := 399) (o := 308 + o) (by omega) (by omega)
  have row : ∀ k, k < 23 → ¬ oddC k → cr (fX3_takeIn (fX3_copyFrom g 12 i) 12 o) (8 + 12) k = fX7_blendOf na nb nc nd T m (308 + i) (308 + o) (400 + T) k := by
    intro k hk1 hk2
    rw [hrow k hk1, hB k hk1, hB2 k hk1]
    have e : ∀ j, rz m 399 (fun k => cr (fX3_copyFrom g 12 i) (8 + 12) k) 399 j = cr (fX3_copyFrom g 12 i) (8 + 12) j := fun j => rz_eq _ _ _ _
    have e2 : ∀ j, rz m 399 (fun k => cr (fX3_copyFrom g 12 i) (8 + 12) k) (308 + o) j = m (308 + o) j := fun j => rz_nr (by omega)
    simp only [e, e2]
    rw [cc 0 (by decide) (by unfold oddC; decide), cc 1 (by decide) (by unfold oddC; decide), cc 2 (by decide) (by unfold oddC; decide), cc 3 (by decide) (by unfold oddC; decide), cc 5 (by decide) (by unfold oddC; decide), cc 7 (by decide) (by unfold oddC; decide), cc k hk1 hk2]
  have bnr : ∀ r k, r < 400 → fX7_blendOf na nb nc nd T m (308 + i) (308 + o) r k = m r k := fun r k q => blendOf_nr (by omega)
  have bI := blend_I (na := na) (nb := nb) (nc := nc) (nd := nd) (T := T) (m := m) (i := i) (o := o) (M := fX7_blendOf na nb nc nd T m (308 + i) (308 + o)) (r2 := 400 + T) lx ly hsum (by omega) (by omega) (by omega) zh.2 (fun k _ => rfl)
  obtain ⟨j1, j2, j3, j4, j5, j6, j7, j8⟩ := bI
  have jk : (fX7_blendOf na nb nc nd T m (308 + i) (308 + o) (400 + T) 0).toInt = (m (308 + i) 0).toInt + (m (308 + o) 0).toInt := by rw [j8, ti_add (by omega) (by omega)]
  generalize hBB : fX7_blendOf na nb nc nd T m (308 + i) (308 + o) = B at row bnr j1 j2 j3 j4 j5 j6 j7 j8 jk
  have o2 : only3 g (fX3_takeIn (fX3_copyFrom g 12 i) 12 o) (8 + 12) := oC.trans9 oT
  have hf := h.hf
  generalize hG : fX3_takeIn (fX3_copyFrom g 12 i) 12 o = G at row o2
  unfold fX6_blendedScore
  rw [hG]
  dsimp only
  refine ⟨?_, h.trial o2, ?_⟩
  · have s := score_eq (na := na) (nb := nb) (nc := nc) (nd := nd) (T := T + 1) (g := G) (m := rz B (400 + T) (fun k => cr G (8 + 12) k)) (i := 12) (r := 400 + T) (fun k _ => (rz_eq _ _ _ _).symm) (fun f hf2 => by
        rw [o2 1 f 0 (by omega), hf f hf2]
        by_cases q : f < na
        · rw [if_pos q, if_pos q, rz_nr (by omega), bnr _ _ (by omega)]
        · rw [if_neg q, if_neg q]) z.1 (by rw [rz_eq, row 5 (by decide) (by unfold oddC; decide)]; exact j4.1) (by rw [rz_eq, row 0 (by decide) (by unfold oddC; decide), jk]; omega) (by
        have := lx.2.2.1
        unfold mtI at this ⊢
        rw [rz_eq, row 4 (by decide) (by unfold oddC; decide), j3]; exact this)
    rw [s]
    exact score_row (fun k k1 k2 => (rz_eq _ _ _ _).trans (row k k1 k2)) (fun f hf2 => rz_nr (by omega)) z.1
  · have e := (cr_3 (g := G) (j := 8 + 12) (k := 0) (by decide)).symm.trans (row 0 (by decide) (by unfold oddC; decide))
    unfold Tr
    rw [show (20 : Nat) = 8 + 12 by decide, e, jk]
    omega
theorem best_in {i : Nat} (hI : Iv na nb nc nd m) {g0 : Gd} (hi : i < nd) : ∀ (n f j : Nat) (a b : Int32) (g1 : Gd), j + n = nd → n < f → i < j → Rl na nb nc nd g1 m → Tr g1 → -1 ≤ b →
    (fX6_bestBlend_L19 g0 i f j a b g1).1 = (fX7_bestNow_L22 na nb nc nd T m (nI i) n j a b).1 ∧ (fX6_bestBlend_L19 g0 i f j a b g1).2.1 = (fX7_bestNow_L22 na nb nc nd T m (nI i) n j a b).2 ∧ Rl na nb nc nd (fX6_bestBlend_L19 g0 i f j a b g1).2.2 m ∧ Tr (fX6_bestBlend_L19 g0 i f j a b g1).2.2 ∧ -1 ≤ (fX7_bestNow_L22 na nb nc nd T m (nI i) n j a b).2 := by
  have z := hI.1
  have hN : (nI i).toNatClampNeg = i := nI_clamp (by omega)
  intro n
  induction n with
  | zero =>
    intro f j a b g1 hkn hf hij hR hT hb
    obtain ⟨f, rfl⟩ : ∃ f', f = f' + 1 := ⟨f - 1, by omega⟩
    have hc : g1 0 0 10 ≤ nI j := by rw [hR.d, show j = nd by omega]; exact Int32.le_refl _
    rw [fX6_bestBlend_L19, if_pos hc]
    exact ⟨rfl, rfl, hR, hT, hb⟩
  | succ n ih =>
    intro f j a b g1 hkn hf hij hR hT hb
    obtain ⟨f, rfl⟩ : ∃ f', f = f' + 1 := ⟨f - 1, by omega⟩
    have hj : j < nd := by omega
    have hc : ¬ g1 0 0 10 ≤ nI j := by rw [hR.d]; exact nI_ge (by omega) (by omega)
    rw [fX6_bestBlend_L19, if_neg hc, fX7_bestNow_L22, hN]
    rcases can_is (T := T) hR hI hi hj (m9 := m) (fun r k _ => rfl) with ⟨c1, c2⟩ | ⟨c1, c2, c3, c4⟩
    · rw [if_pos c1, if_pos c2, if_pos hb]
      exact ih f (j + 1) a b g1 (by omega) (by omega) (by omega) hR hT hb
    · rw [if_neg (show ¬ fX3_canBlendWith g1 i j = 0 by rw [c1]; decide), if_neg (show ¬ fX7_canBlend na nb nc nd T m (308 + i) (308 + j) = 0 by rw [c2]; decide)]
      obtain ⟨s1, s2, s3⟩ := blended (T := T) hR hI hi hj (by omega) c3 c4
      rw [s1]
      generalize fX7_scoreOf na nb nc nd (T + 1) (fX7_blendOf na nb nc nd T m (308 + i) (308 + j)) (400 + T) = s
      by_cases q : b < s
      · rw [if_neg (show ¬ s ≤ b from fun w => absurd q (Int32.not_lt.2 w)), if_pos q]
        exact ih f (j + 1) _ s _ (by omega) (by omega) (by omega) s2 s3 (Int32.le_trans hb (Int32.le_of_lt q))
      · rw [if_pos (show s ≤ b from Int32.not_lt.1 q), if_neg q]
        exact ih f (j + 1) a b _ (by omega) (by omega) (by omega) s2 s3 hb
theorem best_out (hI : Iv na nb nc nd m) {g0 : Gd} : ∀ (n f k : Nat) (a b : Int32) (g1 : Gd), k + n = nd → n < f → Rl na nb nc nd g1 m → Tr g1 → -1 ≤ b →
    (fX6_bestBlend_L6 g0 f k a b g1).1 = (fX7_bestNow_L6 na nb nc nd T m n k a b).1 ∧ Rl na nb nc nd (fX6_bestBlend_L6 g0 f k a b g1).2.2 m ∧ Tr (fX6_bestBlend_L6 g0 f k a b g1).2.2 := by
  have z := hI.1
  intro n
  induction n with
  | zero =>
    intro f k a b g1 hkn hf hR hT hb
    obtain ⟨f, rfl⟩ : ∃ f', f = f' + 1 := ⟨f - 1, by omega⟩
    have hc : g1 0 0 10 ≤ nI k := by rw [hR.d, show k = nd by omega]; exact Int32.le_refl _
    rw [fX6_bestBlend_L6, if_pos hc]
    exact ⟨rfl, hR, hT⟩
  | succ n ih =>
    intro f k a b g1 hkn hf hR hT hb
    obtain ⟨f, rfl⟩ : ∃ f', f = f' + 1 := ⟨f - 1, by omega⟩
    have hk : k < nd := by omega
    have hc : ¬ g1 0 0 10 ≤ nI k := by rw [hR.d]; exact nI_ge (by omega) (by omega)
    rw [fX6_bestBlend_L6, if_neg hc, fX7_bestNow_L6]
    obtain ⟨p1, p2, p3, p4, p5⟩ := best_in (T := T) hI (g0 := g0) hk (nd - (k + 1)) (12 - k) (k + 1) a b g1 (by omega) (by omega) (by omega) hR hT hb
    rw [p1, p2]
    exact ih f (k + 1) _ _ _ (by omega) (by omega) p3 p4 p5
theorem P_bestBlend (h : Rl na nb nc nd g m) (hI : Iv na nb nc nd m) (hT : Tr g) : Ok na nb nc nd 0 0 (fX6_bestBlend g).1 (fX6_bestBlend g).2 (fX7_bestBlend na nb nc nd T m).1 (fX7_bestBlend na nb nc nd T m).2 := by
  have z := hI.1
  obtain ⟨p1, p2, p3⟩ := best_out (T := T) (hI.th (v := 0)) (g0 := g) nd 13 0 (-1) (-1) g (by omega) (by omega) h.th hT (by decide)
  unfold fX6_bestBlend fX7_bestBlend fX7_bestNow
  dsimp only
  exact ⟨u2_eq _ _ _ _, fun _ => p1, p2, hI.th, p3⟩
end BB
