/-! ===== an hour: beds ===== -/
section BD
variable {na nb nc nd T : Nat} {g g2 : Gd} {m m2 : Md}
/-- what a bed's moisture is after an hour -/
def drM (na nb nc nd T : Nat) (m : Md) (r : Nat) (tm wm : Int32) : Int32 := if fX7_is tm 8 17 = 0 then m r 5 else if 80 < m r 5 - fX7_dries na nb nc nd T m r wm then m r 5 - fX7_dries na nb nc nd T m r wm else 80
def wtM (m : Md) (r : Nat) (rn : Int32) : Int32 := if m r 5 + rn < 600 then m r 5 + rn else 600
def moM (na nb nc nd T : Nat) (m : Md) (r : Nat) (tm wm rn : Int32) : Int32 := if rn ≤ 0 then drM na nb nc nd T m r tm wm else if m r 9 = 0 then wtM m r rn else drM na nb nc nd T m r tm wm
def mst (m : Md) (r : Nat) (X : Int32) : Md := if (m r 6 + 1) - (m r 6 + 1) / 12 * 12 = 0 then (if X ≤ 250 then u2 (u2 m r 5 X) r 6 (m r 6 + 1) else u2 (u2 (u2 m r 5 X) r 6 (m r 6 + 1)) r 7 (m r 7 + 1)) else u2 (u2 m r 5 X) r 6 (m r 6 + 1)
def gst (g : Gd) (j : Nat) (X : Int32) : Gd := if (g 3 j 6 + 1) - (g 3 j 6 + 1) / 12 * 12 = 0 then (if X ≤ 250 then up (up g 3 j 5 X) 3 j 6 (g 3 j 6 + 1) else up (up (up g 3 j 5 X) 3 j 6 (g 3 j 6 + 1)) 3 j 7 (g 3 j 7 + 1)) else up (up g 3 j 5 X) 3 j 6 (g 3 j 6 + 1)
def bst (na nb nc nd T : Nat) (m : Md) (r : Nat) (tm wm rn : Int32) : Md := if m r 0 = 0 then m else mst m r (moM na nb nc nd T m r tm wm rn)
theorem u2_id {m : Md} {r c : Nat} : u2 m r c (m r c) = m := by
  funext r2 c2
  unfold u2
  split
  · rename_i q; rw [q.1, q.2]
  · rfl
theorem dryU_eq {r : Nat} {tm wm : Int32} : fX7_dry na nb nc nd T m r tm wm = u2 m r 5 (drM na nb nc nd T m r tm wm) := by
  unfold fX7_dry drM
  split
  · exact u2_id.symm
  · rfl
theorem L180_s {wm rn v4 v3 : Int32} {m0 m1 : Md} {n k : Nat} : fX7_pass_L180 na nb nc nd T m0 wm rn v4 v3 (n + 1) k m1 = fX7_pass_L180 na nb nc nd T m0 wm rn v4 v3 n (k + 1) (bst na nb nc nd T m1 (303 + k) v4 wm rn) := by
  rw [fX7_pass_L180]
  simp only [dryU_eq]
  have a5 : ∀ X, u2 m1 (303 + k) 5 X (303 + k) 5 = X := fun X => u2_eq _ _ _ _
  have a6 : ∀ X, u2 m1 (303 + k) 5 X (303 + k) 6 = m1 (303 + k) 6 := fun X => u2_nk (by decide)
  have a7 : ∀ X, u2 m1 (303 + k) 5 X (303 + k) 7 = m1 (303 + k) 7 := fun X => u2_nk (by decide)
  simp only [a5, a6, a7]
  unfold bst mst moM wtM
  by_cases c0 : m1 (303 + k) 0 = 0
  · rw [if_pos c0, if_pos c0]
  rw [if_neg c0, if_neg c0]
  by_cases c1 : rn ≤ 0
  · rw [if_pos c1, if_pos c1]
    split
    · split <;> rfl
    · rfl
  rw [if_neg c1, if_neg c1]
  by_cases c2 : m1 (303 + k) 9 = 0
  · rw [if_pos c2, if_pos c2]
    by_cases c3 : (m1 (303 + k) 6 + 1) - (m1 (303 + k) 6 + 1) / 12 * 12 = 0
    · rw [if_pos c3, if_pos c3]
      by_cases c4 : (if m1 (303 + k) 5 + rn < 600 then m1 (303 + k) 5 + rn else 600) ≤ 250
      · rw [if_pos c4, if_pos c4]
      · rw [if_neg c4, if_neg c4]
    · rw [if_neg c3, if_neg c3]
  · rw [if_neg c2, if_neg c2]
    by_cases c3 : (m1 (303 + k) 6 + 1) - (m1 (303 + k) 6 + 1) / 12 * 12 = 0
    · rw [if_pos c3, if_pos c3]
      by_cases c4 : drM na nb nc nd T m1 (303 + k) v4 wm ≤ 250
      · rw [if_pos c4, if_pos c4]
      · rw [if_neg c4, if_neg c4]
    · rw [if_neg c3, if_neg c3]
theorem mst_o {r r2 c : Nat} {X : Int32} (h : r2 ≠ r ∨ (c ≠ 5 ∧ c ≠ 6 ∧ c ≠ 7)) : mst m r X r2 c = m r2 c := by
  have a5 : u2 m r 5 X r2 c = m r2 c := if_neg (by omega)
  have a6 : ∀ Y, u2 (u2 m r 5 X) r 6 Y r2 c = m r2 c := fun Y => (if_neg (by omega)).trans a5
  have a7 : ∀ Y Z, u2 (u2 (u2 m r 5 X) r 6 Y) r 7 Z r2 c = m r2 c := fun Y Z => (if_neg (by omega)).trans (a6 Y)
  unfold mst
  split
  · split
    · exact a6 _
    · exact a7 _ _
  · exact a6 _
theorem bst_o {r r2 c : Nat} {tm wm rn : Int32} (h : r2 ≠ r ∨ (c ≠ 5 ∧ c ≠ 6 ∧ c ≠ 7)) : bst na nb nc nd T m r tm wm rn r2 c = m r2 c := by
  unfold bst
  split
  · rfl
  · exact mst_o h
theorem gst_R (h : Rl na nb nc nd g m) (z : Sz na nb nc nd) {k : Nat} (hk : k < nc) {X : Int32} : Rl na nb nc nd (gst g (3 + k) X) (mst m (303 + k) X) := by
  have hz := z.2.2.1
  unfold gst mst
  rw [h.b3z z hk (k := 6) (by decide), h.b3z z hk (k := 7) (by decide)]
  have a := (h.u3b (k := 5) (v := X) hk hz (by decide)).u3b (k := 6) (v := m (303 + k) 6 + 1) hk hz (by decide)
  split
  · split
    · exact a
    · exact a.u3b hk hz (by decide)
  · exact a
theorem gst_T (hT : Tr g) {k : Nat} (hk : k < 5) {X : Int32} : Tr (gst g (3 + k) X) := by
  unfold gst
  split
  · split
    · exact (hT.up (by omega)).up (by omega)
    · exact ((hT.up (by omega)).up (by omega)).up (by omega)
  · exact (hT.up (by omega)).up (by omega)
/-- the class's hour of a bed -/
theorem passHour_gst {k : Nat} {tm wm rn : Int32} : fX1_passHour g k tm wm rn = if fX4_isEmpty (g 3 (3 + k) 0) = 0 then gst g (3 + k) (if rn ≤ 0 then fX1_driedFrom g k (g 3 (3 + k) 5) tm wm else if g 3 (3 + k) 9 = 0 then (if (g 3 (3 + k) 5) + rn < 600 then (g 3 (3 + k) 5) + rn else 600) else fX1_driedFrom g k (g 3 (3 + k) 5) tm wm) else g := by
  unfold fX1_passHour gst
  by_cases c0 : fX4_isEmpty (g 3 (3 + k) 0) = 0
  · rw [if_pos c0, if_pos c0]
    by_cases c1 : rn ≤ 0
    · rw [if_pos c1, if_pos c1]
    · rw [if_neg c1, if_neg c1]
      by_cases c2 : g 3 (3 + k) 9 = 0
      · rw [if_pos c2, if_pos c2]
      · rw [if_neg c2, if_neg c2]
  · rw [if_neg c0, if_neg c0]
theorem driedFrom_eq (h : Rl na nb nc nd g m) (z : Sz na nb nc nd) {k : Nat} (hk : k < nc) (h8 : 5 ≤ (m (303 + k) 8).toInt) (h9 : m (303 + k) 9 = 0 ∨ m (303 + k) 9 = 1) {tm wm : Int32} : fX1_driedFrom g k (g 3 (3 + k) 5) tm wm = drM na nb nc nd T m (303 + k) (tm - tm / 24 * 24) wm := by
  have q8 : (8 : Int32).toInt = 8 := rfl
  have q17 : (17 : Int32).toInt = 17 := rfl
  have q0 : (0 : Int32).toInt = 0 := rfl
  unfold fX1_driedFrom drM fX7_dries fX1_depth
  rw [h.b3z z hk (k := 5) (by decide), h.b3z z hk (k := 8) (by decide), h.b3z z hk (k := 9) (by decide), h.b3z z hk (k := 0) (by decide)]
  rw [if_neg (show ¬ m (303 + k) 8 ≤ 0 by rw [le_ti, q0]; omega)]
  generalize tm - tm / 24 * 24 = v
  rcases rng_is v 8 17 with ⟨b1, b2, b3, b4⟩ | ⟨b1, b2⟩ | ⟨b1, b2, b3, b4⟩
  · rw [if_neg b1, if_pos b2, if_neg b4]
    rcases h9 with h9 | h9
    · rw [if_pos h9, if_neg (show ¬ m (303 + k) 9 = 1 by rw [h9]; decide)]
    · rw [if_neg (show ¬ m (303 + k) 9 = 0 by rw [h9]; decide), if_pos h9]
  · rw [if_pos b1, if_pos b2]
  · rw [if_neg b1, if_neg b2, if_pos b4]
theorem bst_R (h : Rl na nb nc nd g m) (z : Sz na nb nc nd) (hT : Tr g) {k : Nat} (hk : k < nc) (h8 : 5 ≤ (m (303 + k) 8).toInt) (h9 : m (303 + k) 9 = 0 ∨ m (303 + k) 9 = 1) {tm wm rn : Int32} : Rl na nb nc nd (fX1_passHour g k tm wm rn) (bst na nb nc nd T m (303 + k) (tm - tm / 24 * 24) wm rn) ∧ Tr (fX1_passHour g k tm wm rn) := by
  have hz := z.2.2.1
  rw [passHour_gst, driedFrom_eq (T := T) h z hk h8 h9]
  unfold bst moM wtM
  rw [h.b3z z hk (k := 5) (by decide), h.b3z z hk (k := 9) (by decide), h.b3z z hk (k := 0) (by decide)]
  rcases empty_is (x := m (303 + k) 0) with ⟨b1, b2⟩ | ⟨b1, b2⟩
  · rw [if_pos b1, if_neg b2]
    exact ⟨gst_R h z hk, gst_T hT (by omega)⟩
  · rw [if_neg (by rw [b1]; decide), if_pos b2]; exact ⟨h, hT⟩
theorem moM_in {k : Nat} {h0 : Int32} (b : bedI (u2 m 0 0 h0) k) {tm wm rn : Int32} (hw : 0 ≤ wm.toInt ∧ wm.toInt ≤ 40) (hr : 0 ≤ rn.toInt ∧ rn.toInt ≤ 20) : 0 ≤ (moM na nb nc nd T m (303 + k) tm wm rn).toInt ∧ (moM na nb nc nd T m (303 + k) tm wm rn).toInt ≤ 600 := by
  obtain ⟨c1, -, -, c4, c5, -⟩ := b
  have e : ∀ c, u2 m 0 0 h0 (303 + k) c = m (303 + k) c := fun c => u2_nr (by omega)
  have c1 : mixI m (303 + k) 300 := c1.cg (fun c _ => (e c).symm)
  have k0 := c1.k0
  unfold moI at c4
  rw [e, e] at c4
  rw [e] at c5
  have q80 : (80 : Int32).toInt = 80 := rfl
  have q600 : (600 : Int32).toInt = 600 := rfl
  have q10 : (10 : Int32).toInt = 10 := rfl
  have q4 : (4 : Int32).toInt = 4 := rfl
  have d1 : ((m (303 + k) 0) / (m (303 + k) 8)).toInt = (m (303 + k) 0).toInt / (m (303 + k) 8).toInt := ti_div k0.1 (by omega)
  have d2 := Int.ediv_nonneg k0.1 (show 0 ≤ (m (303 + k) 8).toInt by omega)
  have d3 : (m (303 + k) 0).toInt / (m (303 + k) 8).toInt ≤ (m (303 + k) 0).toInt := Int.ediv_le_self _ k0.1
  have d4 : (10 + (m (303 + k) 0) / (m (303 + k) 8)).toInt = 10 + ((m (303 + k) 0) / (m (303 + k) 8)).toInt := by rw [ti_add (by omega) (by omega), q10]
  have d5 : (wm * 10).toInt = wm.toInt * 10 := by rw [ti_mul (by rw [q10]; omega) (by rw [q10]; omega), q10]
  have d6 : (wm * 10 / (10 + (m (303 + k) 0) / (m (303 + k) 8))).toInt = (wm * 10).toInt / (10 + (m (303 + k) 0) / (m (303 + k) 8)).toInt := ti_div (by omega) (by omega)
  have d7 := Int.ediv_nonneg (show 0 ≤ (wm * 10).toInt by omega) (show 0 ≤ (10 + (m (303 + k) 0) / (m (303 + k) 8)).toInt by omega)
  have d8 : (wm * 10).toInt / (10 + (m (303 + k) 0) / (m (303 + k) 8)).toInt ≤ (wm * 10).toInt := Int.ediv_le_self _ (by omega)
  have dr : 0 ≤ (fX7_dries na nb nc nd T m (303 + k) wm).toInt ∧ (fX7_dries na nb nc nd T m (303 + k) wm).toInt ≤ 400 := by
    unfold fX7_dries
    split
    · rw [ti_div (by omega) (by decide), q4]
      omega
    · omega
  have dd : 0 ≤ (drM na nb nc nd T m (303 + k) tm wm).toInt ∧ (drM na nb nc nd T m (303 + k) tm wm).toInt ≤ 600 := by
    unfold drM
    have s : (m (303 + k) 5 - fX7_dries na nb nc nd T m (303 + k) wm).toInt = (m (303 + k) 5).toInt - (fX7_dries na nb nc nd T m (303 + k) wm).toInt := ti_sub (by omega) (by omega)
    split
    · exact ⟨c4.1, c4.2.1⟩
    · split
      · rename_i q; rw [lt_ti, q80] at q; omega
      · rw [q80]; omega
  unfold moM
  split
  · exact dd
  · split
    · unfold wtM
      have s : (m (303 + k) 5 + rn).toInt = (m (303 + k) 5).toInt + rn.toInt := ti_add (by omega) (by omega)
      split
      · rename_i q; rw [lt_ti, q600] at q; omega
      · rw [q600]; omega
    · exact dd
theorem bst_I {k : Nat} {h0 tm wm rn : Int32} (b : bedI (u2 m 0 0 h0) k) (hw : 0 ≤ wm.toInt ∧ wm.toInt ≤ 40) (hr : 0 ≤ rn.toInt ∧ rn.toInt ≤ 20) (hh : (m 0 0).toInt = h0.toInt + 1) (hh2 : h0.toInt ≤ 20000) : bedI (bst na nb nc nd T m (303 + k) tm wm rn) k := by
  have X := moM_in (na := na) (nb := nb) (nc := nc) (nd := nd) (T := T) (tm := tm) b hw hr
  obtain ⟨c1, c2, c3, c4, c5, c6, c7, c8, c9⟩ := b
  have e : ∀ c, u2 m 0 0 h0 (303 + k) c = m (303 + k) c := fun c => u2_nr (by omega)
  have e0 : bst na nb nc nd T m (303 + k) tm wm rn 0 0 = m 0 0 := bst_o (by omega)
  have eo : ∀ c, c ≠ 5 → c ≠ 6 → c ≠ 7 → bst na nb nc nd T m (303 + k) tm wm rn (303 + k) c = m (303 + k) c := fun c h1 h2 h3 => bst_o (Or.inr ⟨h1, h2, h3⟩)
  have ce : ∀ c, c < 23 → c = 0 ∨ c = 1 ∨ 11 ≤ c → bst na nb nc nd T m (303 + k) tm wm rn (303 + k) c = u2 m 0 0 h0 (303 + k) c := fun c _ h => (eo c (by omega) (by omega) (by omega)).trans (e c).symm
  unfold ptI at c2
  unfold mtI at c3
  unfold moI at c4
  rw [e, u2_eq] at c2 c4
  rw [e] at c4
  rw [e] at c3 c5 c6 c8 c9
  rw [e, e, e] at c7
  refine ⟨c1.cg2 ce, ?_, ?_, ?_, ?_, ?_, ?_, ?_, ?_⟩
  · unfold ptI
    rw [e0, eo 3 (by decide) (by decide) (by decide)]
    omega
  · unfold mtI
    rw [eo 4 (by decide) (by decide) (by decide)]
    exact c3
  · unfold moI
    rw [e0]
    unfold bst mst
    have y5 : ∀ Y Z, u2 (u2 m (303 + k) 5 Y) (303 + k) 6 Z (303 + k) 5 = Y := fun Y Z => by rw [u2_nk (by decide), u2_eq]
    have y7 : ∀ Y Z, u2 (u2 m (303 + k) 5 Y) (303 + k) 6 Z (303 + k) 7 = m (303 + k) 7 := fun Y Z => by rw [u2_nk (by decide), u2_nk (by decide)]
    split
    · omega
    · split
      · split
        · rw [y5, y7]; omega
        · rw [u2_eq, u2_nk (show (5 : Nat) ≠ 7 by decide), y5]
          have q1 : (1 : Int32).toInt = 1 := rfl
          have a7 : (m (303 + k) 7 + 1).toInt = (m (303 + k) 7).toInt + 1 := by rw [ti_add (by omega) (by omega), q1]
          omega
      · rw [y5, y7]; omega
  · rw [eo 8 (by decide) (by decide) (by decide)]; exact c5
  · rw [eo 9 (by decide) (by decide) (by decide)]; exact c6
  · intro q
    rw [eo 0 (by decide) (by decide) (by decide)] at q
    unfold bst
    rw [if_pos q]
    exact c7 q
  · rw [eo 2 (by decide) (by decide) (by decide)]; exact c8
  · rw [eo 10 (by decide) (by decide) (by decide)]; exact c9
theorem beds_loop {wm rn h0 v3 : Int32} {m0 : Md} {g0 : Gd} (z : Sz na nb nc nd) (hw : 0 ≤ wm.toInt ∧ wm.toInt ≤ 40) (hr : 0 ≤ rn.toInt ∧ rn.toInt ≤ 20) (hh2 : h0.toInt ≤ 20000) : ∀ (n f k : Nat) (g1 : Gd) (m1 : Md), k + n = nc → n < f → Rl na nb nc nd g1 m1 → Tr g1 → (m1 0 0).toInt = h0.toInt + 1 → (∀ i, k ≤ i → i < nc → bedI (u2 m1 0 0 h0) i) →
    Rl na nb nc nd (fX6_passOneHour_L44 g0 wm rn f k g1) (fX7_pass_L180 na nb nc nd T m0 wm rn (m1 0 0 - m1 0 0 / 24 * 24) v3 n k m1) ∧ Tr (fX6_passOneHour_L44 g0 wm rn f k g1) ∧ (∀ r c, (∀ i, k ≤ i → i < nc → r ≠ 303 + i) → fX7_pass_L180 na nb nc nd T m0 wm rn (m1 0 0 - m1 0 0 / 24 * 24) v3 n k m1 r c = m1 r c) ∧ (∀ i, k ≤ i → i < nc → bedI (fX7_pass_L180 na nb nc nd T m0 wm rn (m1 0 0 - m1 0 0 / 24 * 24) v3 n k m1) i) := by
  intro n
  induction n with
  | zero =>
    intro f k g1 m1 hkn hf hR hT h1 hb
    obtain ⟨f, rfl⟩ : ∃ f', f = f' + 1 := ⟨f - 1, by omega⟩
    have hc : g1 0 0 9 ≤ nI k := by rw [hR.c, show k = nc by omega]; exact Int32.le_refl _
    rw [fX6_passOneHour_L44, if_pos hc]
    exact ⟨hR, hT, fun _ _ _ => rfl, fun i h1 h2 => absurd h2 (by omega)⟩
  | succ n ih =>
    intro f k g1 m1 hkn hf hR hT h1 hb
    obtain ⟨f, rfl⟩ : ∃ f', f = f' + 1 := ⟨f - 1, by omega⟩
    have hz := z.2.2.1
    have hkn2 : k < nc := by omega
    have hc : ¬ g1 0 0 9 ≤ nI k := by rw [hR.c]; exact nI_ge (by omega) (by omega)
    rw [fX6_passOneHour_L44, if_neg hc, L180_s, hR.s (by decide)]
    have b := hb k (Nat.le_refl _) hkn2
    have e : ∀ c, u2 m1 0 0 h0 (303 + k) c = m1 (303 + k) c := fun c => u2_nr (by omega)
    have b8 := b.2.2.2.2.1
    have b9 := b.2.2.2.2.2.1
    rw [e] at b8 b9
    obtain ⟨r1, r2⟩ := bst_R (T := T) (tm := m1 0 0) (wm := wm) (rn := rn) hR z hT hkn2 b8.1 b9
    have e0 : bst na nb nc nd T m1 (303 + k) (m1 0 0 - m1 0 0 / 24 * 24) wm rn 0 0 = m1 0 0 := bst_o (by omega)
    have r3 := bst_I (na := na) (nb := nb) (nc := nc) (nd := nd) (T := T) (tm := m1 0 0 - m1 0 0 / 24 * 24) b hw hr h1 hh2
    obtain ⟨q1, q2, q3, q4⟩ := ih f (k + 1) _ _ (by omega) (by omega) r1 r2 (by rw [e0]; exact h1) (fun i i1 i2 => (hb i (by omega) i2).cg (fun c _ => by rw [u2_nr (show 303 + i ≠ 0 by omega), u2_nr (show 303 + i ≠ 0 by omega)]; exact bst_o (by omega)) (by rw [u2_eq, u2_eq]; exact Int.le_refl _))
    rw [e0] at q1 q3 q4
    refine ⟨q1, q2, fun r c h => ?_, fun i i1 i2 => ?_⟩
    · rw [q3 r c (fun i i1 i2 => h i (by omega) i2)]
      exact bst_o (Or.inl (h k (Nat.le_refl _) hkn2))
    · by_cases ei : i = k
      · subst ei
        exact r3.cg (fun c _ => q3 _ _ (fun j j1 j2 => by omega)) (by rw [q3 _ _ (fun j j1 j2 => by omega)]; exact Int.le_refl _)
      · exact q4 i (by omega) i2
end BD
