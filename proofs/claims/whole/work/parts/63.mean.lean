/-! ===== the mean score ===== -/
section MN
variable {na nb nc nd T : Nat} {g g2 : Gd} {m m2 : Md}
def hK (m : Md) (r : Nat) : Nat → Int
  | 0 => 0
  | n + 1 => hK m r n + (m r (11 + n)).toInt
theorem hK_le {r : Nat} {K : Int} (h : mixI m r K) : ∀ n, n ≤ 6 → 0 ≤ hK m r n ∧ hK m r n ≤ (m r 0).toInt := by
  have k0 := h.k (f := 0) (by decide)
  have k1 := h.k (f := 1) (by decide)
  have k2 := h.k (f := 2) (by decide)
  have k3 := h.k (f := 3) (by decide)
  have k4 := h.k (f := 4) (by decide)
  have k5 := h.k (f := 5) (by decide)
  have s := h.2.1
  intro n hn
  have hn2 : n = 0 ∨ n = 1 ∨ n = 2 ∨ n = 3 ∨ n = 4 ∨ n = 5 ∨ n = 6 := by omega
  simp only [Nat.reduceAdd, Nat.add_zero] at k0 k1 k2 k3 k4 k5
  rcases hn2 with rfl | rfl | rfl | rfl | rfl | rfl | rfl <;> simp only [hK, Nat.reduceAdd, Nat.add_zero] <;> omega
theorem heightL_b {r : Nat} (h : mixI m r 1800) (hf : ∀ i, i < na → 0 ≤ (m (100 + i) 0).toInt ∧ (m (100 + i) 0).toInt ≤ 22) (hna : na ≤ 6) : ∀ (n k : Nat) (a : Int32), k + n = na → 0 ≤ a.toInt → a.toInt ≤ 22 * hK m r k → 0 ≤ (fX7_scoreOf_L12 na nb nc nd T m r n k a).toInt ∧ (fX7_scoreOf_L12 na nb nc nd T m r n k a).toInt ≤ 22 * hK m r na := by
  intro n
  induction n with
  | zero =>
    intro k a hk h0 h1
    obtain rfl : k = na := by omega
    exact ⟨h0, h1⟩
  | succ n ih =>
    intro k a hk h0 h1
    rw [fX7_scoreOf_L12]
    have kk := h.k (f := k) (by omega)
    have kl := h.kle (f := k) (by omega)
    have k0 := h.k0
    have hh := hf k (by omega)
    have hb := hK_le h k (by omega)
    have p1 := mul_b kk (show (m r (11 + k)).toInt ≤ 1800 by omega) hh.1 hh.2
    have p2 := Int.mul_le_mul_of_nonneg_left hh.2 kk
    have e1 : (m r (11 + k) * m (100 + k) 0).toInt = (m r (11 + k)).toInt * (m (100 + k) 0).toInt := ti_mul (by omega) (by omega)
    have e2 : (a + m r (11 + k) * m (100 + k) 0).toInt = a.toInt + (m r (11 + k)).toInt * (m (100 + k) 0).toInt := by rw [ti_add (by omega) (by omega), e1]
    refine ih (k + 1) _ (by omega) (by omega) ?_
    show _ ≤ 22 * (hK m r k + (m r (11 + k)).toInt)
    omega
theorem fault_b {r : Nat} {x : Int32} (h1 : 0 ≤ (m r 1).toInt ∧ (m r 1).toInt ≤ 100) (h2 : 0 ≤ (m r 2).toInt ∧ (m r 2).toInt ≤ 20000) (h3 : 0 ≤ (m r 3).toInt ∧ (m r 3).toInt ≤ 260000) (h5 : 0 ≤ (m r 5).toInt ∧ (m r 5).toInt ≤ 600) (h7 : 0 ≤ (m r 7).toInt ∧ (m r 7).toInt ≤ 20000) : 0 ≤ (fX7_fault na nb nc nd T m r x).toInt ∧ (fX7_fault na nb nc nd T m r x).toInt ≤ 60000 := by
  have q0 : (0 : Int32).toInt = 0 := rfl
  have q1 : (1 : Int32).toInt = 1 := rfl
  have q2 : (2 : Int32).toInt = 2 := rfl
  have q5 : (5 : Int32).toInt = 5 := rfl
  have q10 : (10 : Int32).toInt = 10 := rfl
  have q30 : (30 : Int32).toInt = 30 := rfl
  have q60 : (60 : Int32).toInt = 60 := rfl
  have q95 : (95 : Int32).toInt = 95 := rfl
  have q100 : (100 : Int32).toInt = 100 := rfl
  have q125 : (125 : Int32).toInt = 125 := rfl
  unfold fX7_fault
  have e1 : (100 - m r 1).toInt = 100 - (m r 1).toInt := by rw [ti_sub (by omega) (by omega), q100]
  have e3 : (m r 3 - 100).toInt = (m r 3).toInt - 100 := by rw [ti_sub (by omega) (by omega), q100]
  have e4 : (60 - m r 3).toInt = 60 - (m r 3).toInt := by rw [ti_sub (by omega) (by omega), q60]
  have e5 : (95 - m r 5).toInt = 95 - (m r 5).toInt := by rw [ti_sub (by omega) (by omega), q95]
  have e6 : (m r 5 - 125).toInt = (m r 5).toInt - 125 := by rw [ti_sub (by omega) (by omega), q125]
  split
  · rw [ti_div (by omega) (by decide), q5]; omega
  split
  · split
    · split
      · rename_i c
        rw [le_ti, q60] at c
        split
        · rename_i c2
          rw [lt_ti, q0] at c2
          rw [ti_div (by omega) (by decide), q5]; omega
        · decide
      · rename_i c
        rw [le_ti, q60] at c
        rw [ti_div (by omega) (by decide), q5]; omega
    · decide
  split
  · split
    · rw [ti_mul (by rw [q2]; omega) (by rw [q2]; omega), q2]; omega
    · rw [ti_mul (by rw [q1]; omega) (by rw [q1]; omega), q1]; omega
  split
  · split
    · split
      · rename_i c2
        rw [lt_ti, q0] at c2
        rw [ti_div (by omega) (by decide), q5]; omega
      · decide
    · rename_i c
      rw [le_ti, q125] at c
      rw [ti_div (by omega) (by decide), q10]; omega
  · rw [ti_div (by omega) (by decide), q30]; omega
theorem score_b {i : Nat} (hI : Iv na nb nc nd m) (hi : i < nd) : 0 ≤ (fX7_scoreOf na nb nc nd T m (308 + i)).toInt ∧ (fX7_scoreOf na nb nc nd T m (308 + i)).toInt ≤ 92 := by
  have lI := hI.2.2.2.2.2.2.1 i hi
  obtain ⟨c1, c2, c3, c4, c5, c6, c7⟩ := lI
  have hh := hI.2.1
  have k0 := c1.k0
  have q0 : (0 : Int32).toInt = 0 := rfl
  have q40 : (40 : Int32).toInt = 40 := rfl
  have q68 : (68 : Int32).toInt = 68 := rfl
  have H := heightL_b (nb := nb) (nc := nc) (nd := nd) (T := T) c1 hI.2.2.1 hI.1.1 na 0 0 (by omega) (by decide) (by show (0 : Int) ≤ 22 * 0; decide)
  have hk := hK_le c1 na hI.1.1
  unfold ptI at c2
  unfold moI at c4
  have F : ∀ x, 0 ≤ (fX7_fault na nb nc nd T m (308 + i) x).toInt ∧ (fX7_fault na nb nc nd T m (308 + i) x).toInt ≤ 60000 := fun x => fault_b c1.2.2.2 (by omega) (by omega) (by omega) (by omega)
  unfold fX7_scoreOf
  split
  · decide
  rename_i hz
  have kp := ne0_pos k0.1 hz
  generalize fX7_scoreOf_L12 na nb nc nd T m (308 + i) na 0 0 = L at H
  have hd : (L / m (308 + i) 0).toInt = L.toInt / (m (308 + i) 0).toInt := ti_div H.1 (by omega)
  have hd0 := Int.ediv_nonneg H.1 (show 0 ≤ (m (308 + i) 0).toInt by omega)
  have hd1 : L.toInt / (m (308 + i) 0).toInt ≤ 22 := Int.ediv_le_of_le_mul kp (by omega)
  have mt : 0 ≤ (m (308 + i) 4).toInt ∧ (m (308 + i) 4).toInt ≤ 2 := by
    unfold mtI at c3
    rcases c3 with c | c | c <;> rw [c] <;> decide
  have f1 := F 1
  have f2 := F 2
  have f3 := F 3
  have f4 := F 4
  have f5 := F 5
  generalize fX7_fault na nb nc nd T m (308 + i) 1 = x1 at f1
  generalize fX7_fault na nb nc nd T m (308 + i) 2 = x2 at f2
  generalize fX7_fault na nb nc nd T m (308 + i) 3 = x3 at f3
  generalize fX7_fault na nb nc nd T m (308 + i) 4 = x4 at f4
  generalize fX7_fault na nb nc nd T m (308 + i) 5 = x5 at f5
  generalize m (308 + i) 4 = M4 at mt
  generalize L / m (308 + i) 0 = Q at hd
  have s1 : (68 + Q).toInt = 68 + Q.toInt := by rw [ti_add (by omega) (by omega), q68]
  have s2 : (68 + Q + M4).toInt = 68 + Q.toInt + M4.toInt := by rw [ti_add (by omega) (by omega), s1]
  have s3 : (68 + Q + M4 - x1).toInt = 68 + Q.toInt + M4.toInt - x1.toInt := by rw [ti_sub (by omega) (by omega), s2]
  have s4 : (68 + Q + M4 - x1 - x2).toInt = 68 + Q.toInt + M4.toInt - x1.toInt - x2.toInt := by rw [ti_sub (by omega) (by omega), s3]
  have s5 : (68 + Q + M4 - x1 - x2 - x3).toInt = 68 + Q.toInt + M4.toInt - x1.toInt - x2.toInt - x3.toInt := by rw [ti_sub (by omega) (by omega), s4]
  have s6 : (68 + Q + M4 - x1 - x2 - x3 - x4).toInt = 68 + Q.toInt + M4.toInt - x1.toInt - x2.toInt - x3.toInt - x4.toInt := by rw [ti_sub (by omega) (by omega), s5]
  have s7 : (68 + Q + M4 - x1 - x2 - x3 - x4 - x5).toInt = 68 + Q.toInt + M4.toInt - x1.toInt - x2.toInt - x3.toInt - x4.toInt - x5.toInt := by rw [ti_sub (by omega) (by omega), s6]
  split
  · rename_i c
    rw [lt_ti, q40] at c
    omega
  · decide
theorem mean_loop (h : Rl na nb nc nd g m) (hI : Iv na nb nc nd m) : ∀ (n f k : Nat) (a b : Int32) (S : Int64), k + n = nd → n < f → a.toInt = S.toInt → 0 ≤ a.toInt → a.toInt ≤ 165600 * k → (fX6_meanScore_L6 g f k a b).1.toInt = (fX7_meanScore_L15 na nb nc nd T m n k S).toInt ∧ (fX6_meanScore_L6 g f k a b).2 = fX6_allKilosInStore_L4 g f k b := by
  have z := hI.1
  intro n
  induction n with
  | zero =>
    intro f k a b S hkn hf e h0 h1
    obtain ⟨f, rfl⟩ : ∃ f', f = f' + 1 := ⟨f - 1, by omega⟩
    have c : g 0 0 10 ≤ nI k := by rw [h.d, show k = nd by omega]; exact Int32.le_refl _
    rw [fX6_meanScore_L6, if_pos c, fX6_allKilosInStore_L4, if_pos c]; exact ⟨e, rfl⟩
  | succ n ih =>
    intro f k a b S hkn hf e h0 h1
    obtain ⟨f, rfl⟩ : ∃ f', f = f' + 1 := ⟨f - 1, by omega⟩
    have hk : k < nd := by omega
    have c : ¬ g 0 0 10 ≤ nI k := by rw [h.d]; exact nI_ge (by omega) (by omega)
    rw [fX6_meanScore_L6, if_neg c, fX6_allKilosInStore_L4, if_neg c, fX7_meanScore_L15, h.l3 hI hk (k := 10) (by decide), h.l3 hI hk (k := 0) (by decide)]
    have lI := hI.2.2.2.2.2.2.1 k hk
    have k0 := lI.1.k0
    have sb := score_b (T := T) hI hk
    rcases isIn_is (T := T) (na := na) (nb := nb) (nc := nc) (nd := nd) lI.2.2.2.2.2.1 with ⟨b1, b2⟩ | ⟨b1, b2, b3⟩
    · rw [if_pos b1, if_pos b1, if_pos b2, Int64.add_zero]
      exact ih f (k + 1) a b S (by omega) (by omega) e h0 (by omega)
    · rw [if_neg b2, if_neg b2, if_neg b3]
      have kp := lI.2.2.2.2.2.2 b1
      rw [score_eq (T := T) (fun q hq => h.lr hI hk hq) h.hf z.1 lI.2.2.2.1.1 kp lI.2.2.1]
      have p := mul_b k0.1 k0.2 sb.1 sb.2
      have e1 : (m (308 + k) 0 * fX7_scoreOf na nb nc nd T m (308 + k)).toInt = (m (308 + k) 0).toInt * (fX7_scoreOf na nb nc nd T m (308 + k)).toInt := ti_mul (by omega) (by omega)
      have e2 : ((m (308 + k) 0).toInt64 * (fX7_scoreOf na nb nc nd T m (308 + k)).toInt64).toInt = (m (308 + k) 0).toInt * (fX7_scoreOf na nb nc nd T m (308 + k)).toInt := by
        rw [tl_mul (by rw [Int32.toInt_toInt64, Int32.toInt_toInt64]; omega) (by rw [Int32.toInt_toInt64, Int32.toInt_toInt64]; omega), Int32.toInt_toInt64, Int32.toInt_toInt64]
      have e3 : (a + m (308 + k) 0 * fX7_scoreOf na nb nc nd T m (308 + k)).toInt = a.toInt + (m (308 + k) 0).toInt * (fX7_scoreOf na nb nc nd T m (308 + k)).toInt := by rw [ti_add (by omega) (by omega), e1]
      have e4 : (S + (m (308 + k) 0).toInt64 * (fX7_scoreOf na nb nc nd T m (308 + k)).toInt64).toInt = S.toInt + (m (308 + k) 0).toInt * (fX7_scoreOf na nb nc nd T m (308 + k)).toInt := by rw [tl_add (by omega) (by omega), e2]
      exact ih f (k + 1) _ _ _ (by omega) (by omega) (by rw [e3, e4, e]) (by omega) (by omega)
theorem P_meanScore (h : Rl na nb nc nd g m) (hI : Iv na nb nc nd m) (hT : Tr g) : fX6_meanScore g = (fX7_meanScore na nb nc nd T m).1 ∧ (fX7_meanScore na nb nc nd T m).2 = u2 m 0 20 0 := by
  have z := hI.1
  have v := many_v (T := T) (u := 11) h hI hT (by decide)
  have v2 : (fX6_many g 11).2 = fX6_allKilosInStore g := rfl
  rw [v2] at v
  obtain ⟨l1, l2⟩ := mean_loop (T := T) (h.th (v := 0)) (hI.th (v := 0)) nd 13 0 0 0 0 (by omega) (by omega) rfl (by decide) (by decide)
  have l3 : (fX6_meanScore_L6 g 13 0 0 0).2 = fX7_manyNow na nb nc nd T (u2 m 0 20 0) 11 := l2.trans v
  unfold fX6_meanScore fX7_meanScore
  rw [l3, i2d_l2d l1]
  split
  · exact ⟨rfl, rfl⟩
  · exact ⟨rfl, rfl⟩
end MN
