/-! ===== the digest ===== -/
section DG
variable {na nb nc nd T : Nat} {g g2 : Gd} {m m2 : Md}
theorem isk {k n : Nat} (hk : k < n) (hn : n ≤ 100) : ¬ fX7_is (nI k) 0 (nI n - 1) = 0 := by
  have q0 : (0 : Int32).toInt = 0 := rfl
  rcases at_is (x := nI k) hn with ⟨a1, a2, a3⟩ | ⟨a1, a2⟩
  · exact a2
  · rw [if_neg (show ¬ nI k < 0 by rw [lt_ti, ti_nI (by omega), q0]; omega), if_pos (show nI k < nI n by rw [lt_ti, ti_nI (by omega), ti_nI (by omega)]; omega)] at a1
    exact absurd a1 (by decide)
theorem ready_code {x wt : Int32} : ∀ (n k : Nat), (fX6_readyIn_L25 g x wt n k).1 = 0 := by
  intro n
  induction n with
  | zero => intro k; rfl
  | succ n ih =>
    intro k
    rw [fX6_readyIn_L25]
    split
    · rfl
    · split
      · exact ih _
      · rfl
theorem dry_code {x wt : Int32} : ∀ (n k : Nat) (mo : Int32), (fX6_dryIn_L31 g x wt n k mo).1 = 0 := by
  intro n
  induction n with
  | zero => intro k mo; rfl
  | succ n ih =>
    intro k mo
    rw [fX6_dryIn_L31]
    split
    · rfl
    · split
      · split
        · exact ih _ _
        · rfl
      · split
        · exact ih _ _
        · rfl

theorem C_ofFarm {x u : Int32} (hx : fX6_farmAt g x = 0) (hu : ¬ fX7_is u 0 4 = 0) : (fX6_ofFarm g x u).1 = 0 := by
  unfold fX6_ofFarm
  rw [if_pos hx]
  obtain ⟨j, hj, rfl⟩ := in_u (N := 4) (by decide) hu
  have hj2 : j = 0 ∨ j = 1 ∨ j = 2 ∨ j = 3 ∨ j = 4 := by omega
  rcases hj2 with rfl | rfl | rfl | rfl | rfl
  · rw [if_pos (show nI 0 = 0 by decide)]
  · rw [if_neg (show ¬ nI 1 = 0 by decide), if_pos (show nI 1 = 1 by decide)]
  · rw [if_neg (show ¬ nI 2 = 0 by decide), if_neg (show ¬ nI 2 = 1 by decide), if_pos (show nI 2 = 2 by decide)]
  · rw [if_neg (show ¬ nI 3 = 0 by decide), if_neg (show ¬ nI 3 = 1 by decide), if_neg (show ¬ nI 3 = 2 by decide), if_pos (show nI 3 = 3 by decide)]
  · rw [if_neg (show ¬ nI 4 = 0 by decide), if_neg (show ¬ nI 4 = 1 by decide), if_neg (show ¬ nI 4 = 2 by decide), if_neg (show ¬ nI 4 = 3 by decide), if_pos (show nI 4 = 4 by decide)]
theorem C_ofBasket {x u : Int32} (hx : fX6_basketAt g x = 0) (hu : ¬ fX7_is u 0 5 = 0) : (fX6_ofBasket g x u).1 = 0 := by
  unfold fX6_ofBasket
  rw [if_pos hx]
  obtain ⟨j, hj, rfl⟩ := in_u (N := 5) (by decide) hu
  have hj2 : j = 0 ∨ j = 1 ∨ j = 2 ∨ j = 3 ∨ j = 4 ∨ j = 5 := by omega
  rcases hj2 with rfl | rfl | rfl | rfl | rfl | rfl
  · rw [if_pos (show nI 0 = 0 by decide)]
  · rw [if_neg (show ¬ nI 1 = 0 by decide), if_pos (show nI 1 = 1 by decide)]
  · rw [if_neg (show ¬ nI 2 = 0 by decide), if_neg (show ¬ nI 2 = 1 by decide), if_pos (show nI 2 = 2 by decide)]
  · rw [if_neg (show ¬ nI 3 = 0 by decide), if_neg (show ¬ nI 3 = 1 by decide), if_neg (show ¬ nI 3 = 2 by decide), if_pos (show nI 3 = 3 by decide)]
  · rw [if_neg (show ¬ nI 4 = 0 by decide), if_neg (show ¬ nI 4 = 1 by decide), if_neg (show ¬ nI 4 = 2 by decide), if_neg (show ¬ nI 4 = 3 by decide), if_pos (show nI 4 = 4 by decide)]
  · rw [if_neg (show ¬ nI 5 = 0 by decide), if_neg (show ¬ nI 5 = 1 by decide), if_neg (show ¬ nI 5 = 2 by decide), if_neg (show ¬ nI 5 = 3 by decide), if_neg (show ¬ nI 5 = 4 by decide), if_pos (show nI 5 = 5 by decide)]
    split <;> rfl
theorem C_ofTank {x u : Int32} (hx : fX6_tankAt g x = 0) (hu : ¬ fX7_is u 0 4 = 0) : (fX6_ofTank g x u).1 = 0 := by
  unfold fX6_ofTank
  rw [if_pos hx]
  obtain ⟨j, hj, rfl⟩ := in_u (N := 4) (by decide) hu
  have hj2 : j = 0 ∨ j = 1 ∨ j = 2 ∨ j = 3 ∨ j = 4 := by omega
  rcases hj2 with rfl | rfl | rfl | rfl | rfl
  · rw [if_pos (show nI 0 = 0 by decide)]
  · rw [if_neg (show ¬ nI 1 = 0 by decide), if_pos (show nI 1 = 1 by decide)]
  · rw [if_neg (show ¬ nI 2 = 0 by decide), if_neg (show ¬ nI 2 = 1 by decide), if_pos (show nI 2 = 2 by decide)]
  · rw [if_neg (show ¬ nI 3 = 0 by decide), if_neg (show ¬ nI 3 = 1 by decide), if_neg (show ¬ nI 3 = 2 by decide), if_pos (show nI 3 = 3 by decide)]
  · rw [if_neg (show ¬ nI 4 = 0 by decide), if_neg (show ¬ nI 4 = 1 by decide), if_neg (show ¬ nI 4 = 2 by decide), if_neg (show ¬ nI 4 = 3 by decide), if_pos (show nI 4 = 4 by decide)]
theorem C_ofBed {x u : Int32} (hx : fX6_bedAt g x = 0) (hu : ¬ fX7_is u 0 7 = 0) : (fX6_ofBed g x u).1 = 0 := by
  unfold fX6_ofBed
  rw [if_pos hx]
  obtain ⟨j, hj, rfl⟩ := in_u (N := 7) (by decide) hu
  have hj2 : j = 0 ∨ j = 1 ∨ j = 2 ∨ j = 3 ∨ j = 4 ∨ j = 5 ∨ j = 6 ∨ j = 7 := by omega
  rcases hj2 with rfl | rfl | rfl | rfl | rfl | rfl | rfl | rfl
  · rw [if_pos (show nI 0 = 0 by decide)]
  · rw [if_neg (show ¬ nI 1 = 0 by decide), if_pos (show nI 1 = 1 by decide)]
    split <;> rfl
  · rw [if_neg (show ¬ nI 2 = 0 by decide), if_neg (show ¬ nI 2 = 1 by decide), if_pos (show nI 2 = 2 by decide)]
  · rw [if_neg (show ¬ nI 3 = 0 by decide), if_neg (show ¬ nI 3 = 1 by decide), if_neg (show ¬ nI 3 = 2 by decide), if_pos (show nI 3 = 3 by decide)]
  · rw [if_neg (show ¬ nI 4 = 0 by decide), if_neg (show ¬ nI 4 = 1 by decide), if_neg (show ¬ nI 4 = 2 by decide), if_neg (show ¬ nI 4 = 3 by decide), if_pos (show nI 4 = 4 by decide)]
  · rw [if_neg (show ¬ nI 5 = 0 by decide), if_neg (show ¬ nI 5 = 1 by decide), if_neg (show ¬ nI 5 = 2 by decide), if_neg (show ¬ nI 5 = 3 by decide), if_neg (show ¬ nI 5 = 4 by decide), if_pos (show nI 5 = 5 by decide)]
  · rw [if_neg (show ¬ nI 6 = 0 by decide), if_neg (show ¬ nI 6 = 1 by decide), if_neg (show ¬ nI 6 = 2 by decide), if_neg (show ¬ nI 6 = 3 by decide), if_neg (show ¬ nI 6 = 4 by decide), if_neg (show ¬ nI 6 = 5 by decide), if_pos (show nI 6 = 6 by decide)]
  · rw [if_neg (show ¬ nI 7 = 0 by decide), if_neg (show ¬ nI 7 = 1 by decide), if_neg (show ¬ nI 7 = 2 by decide), if_neg (show ¬ nI 7 = 3 by decide), if_neg (show ¬ nI 7 = 4 by decide), if_neg (show ¬ nI 7 = 5 by decide), if_neg (show ¬ nI 7 = 6 by decide), if_pos (show nI 7 = 7 by decide)]
theorem C_ofLot {x u : Int32} (hx : fX6_lotAt g x = 0) (hu : ¬ fX7_is u 0 11 = 0) : (fX6_ofLot g x u).1 = 0 := by
  unfold fX6_ofLot
  rw [if_pos hx]
  obtain ⟨j, hj, rfl⟩ := in_u (N := 11) (by decide) hu
  have hj2 : j = 0 ∨ j = 1 ∨ j = 2 ∨ j = 3 ∨ j = 4 ∨ j = 5 ∨ j = 6 ∨ j = 7 ∨ j = 8 ∨ j = 9 ∨ j = 10 ∨ j = 11 := by omega
  rcases hj2 with rfl | rfl | rfl | rfl | rfl | rfl | rfl | rfl | rfl | rfl | rfl | rfl
  · rw [if_pos (show nI 0 = 0 by decide)]
  · rw [if_neg (show ¬ nI 1 = 0 by decide), if_pos (show nI 1 = 1 by decide)]
  · rw [if_neg (show ¬ nI 2 = 0 by decide), if_neg (show ¬ nI 2 = 1 by decide), if_pos (show nI 2 = 2 by decide)]
    split <;> rfl
  · rw [if_neg (show ¬ nI 3 = 0 by decide), if_neg (show ¬ nI 3 = 1 by decide), if_neg (show ¬ nI 3 = 2 by decide), if_pos (show nI 3 = 3 by decide)]
  · rw [if_neg (show ¬ nI 4 = 0 by decide), if_neg (show ¬ nI 4 = 1 by decide), if_neg (show ¬ nI 4 = 2 by decide), if_neg (show ¬ nI 4 = 3 by decide), if_pos (show nI 4 = 4 by decide)]
  · rw [if_neg (show ¬ nI 5 = 0 by decide), if_neg (show ¬ nI 5 = 1 by decide), if_neg (show ¬ nI 5 = 2 by decide), if_neg (show ¬ nI 5 = 3 by decide), if_neg (show ¬ nI 5 = 4 by decide), if_pos (show nI 5 = 5 by decide)]
  · rw [if_neg (show ¬ nI 6 = 0 by decide), if_neg (show ¬ nI 6 = 1 by decide), if_neg (show ¬ nI 6 = 2 by decide), if_neg (show ¬ nI 6 = 3 by decide), if_neg (show ¬ nI 6 = 4 by decide), if_neg (show ¬ nI 6 = 5 by decide), if_pos (show nI 6 = 6 by decide)]
  · rw [if_neg (show ¬ nI 7 = 0 by decide), if_neg (show ¬ nI 7 = 1 by decide), if_neg (show ¬ nI 7 = 2 by decide), if_neg (show ¬ nI 7 = 3 by decide), if_neg (show ¬ nI 7 = 4 by decide), if_neg (show ¬ nI 7 = 5 by decide), if_neg (show ¬ nI 7 = 6 by decide), if_pos (show nI 7 = 7 by decide)]
  · rw [if_neg (show ¬ nI 8 = 0 by decide), if_neg (show ¬ nI 8 = 1 by decide), if_neg (show ¬ nI 8 = 2 by decide), if_neg (show ¬ nI 8 = 3 by decide), if_neg (show ¬ nI 8 = 4 by decide), if_neg (show ¬ nI 8 = 5 by decide), if_neg (show ¬ nI 8 = 6 by decide), if_neg (show ¬ nI 8 = 7 by decide), if_pos (show nI 8 = 8 by decide)]
  · rw [if_neg (show ¬ nI 9 = 0 by decide), if_neg (show ¬ nI 9 = 1 by decide), if_neg (show ¬ nI 9 = 2 by decide), if_neg (show ¬ nI 9 = 3 by decide), if_neg (show ¬ nI 9 = 4 by decide), if_neg (show ¬ nI 9 = 5 by decide), if_neg (show ¬ nI 9 = 6 by decide), if_neg (show ¬ nI 9 = 7 by decide), if_neg (show ¬ nI 9 = 8 by decide), if_pos (show nI 9 = 9 by decide)]
  · rw [if_neg (show ¬ nI 10 = 0 by decide), if_neg (show ¬ nI 10 = 1 by decide), if_neg (show ¬ nI 10 = 2 by decide), if_neg (show ¬ nI 10 = 3 by decide), if_neg (show ¬ nI 10 = 4 by decide), if_neg (show ¬ nI 10 = 5 by decide), if_neg (show ¬ nI 10 = 6 by decide), if_neg (show ¬ nI 10 = 7 by decide), if_neg (show ¬ nI 10 = 8 by decide), if_neg (show ¬ nI 10 = 9 by decide), if_pos (show nI 10 = 10 by decide)]
    split <;> rfl
  · rw [if_neg (show ¬ nI 11 = 0 by decide), if_neg (show ¬ nI 11 = 1 by decide), if_neg (show ¬ nI 11 = 2 by decide), if_neg (show ¬ nI 11 = 3 by decide), if_neg (show ¬ nI 11 = 4 by decide), if_neg (show ¬ nI 11 = 5 by decide), if_neg (show ¬ nI 11 = 6 by decide), if_neg (show ¬ nI 11 = 7 by decide), if_neg (show ¬ nI 11 = 8 by decide), if_neg (show ¬ nI 11 = 9 by decide), if_neg (show ¬ nI 11 = 10 by decide), if_pos (show nI 11 = 11 by decide)]
    split <;> rfl
theorem many_v (h : Rl na nb nc nd g m) (hI : Iv na nb nc nd m) (hT : Tr g) {u : Int32} (hu : ¬ fX7_is u 0 15 = 0) : (fX6_many g u).2 = fX7_manyNow na nb nc nd T (u2 m 0 20 0) u := by
  have c : (fX6_many g u).1 = 0 := by
    unfold fX6_many
    obtain ⟨j, hj, rfl⟩ := in_u (N := 15) (by decide) hu
    have hj2 : j = 0 ∨ j = 1 ∨ j = 2 ∨ j = 3 ∨ j = 4 ∨ j = 5 ∨ j = 6 ∨ j = 7 ∨ j = 8 ∨ j = 9 ∨ j = 10 ∨ j = 11 ∨ j = 12 ∨ j = 13 ∨ j = 14 ∨ j = 15 := by omega
    rcases hj2 with rfl | rfl | rfl | rfl | rfl | rfl | rfl | rfl | rfl | rfl | rfl | rfl | rfl | rfl | rfl | rfl
    · rw [if_pos (show nI 0 = 0 by decide)]
    · rw [if_neg (show ¬ nI 1 = 0 by decide), if_pos (show nI 1 = 1 by decide)]
    · rw [if_neg (show ¬ nI 2 = 0 by decide), if_neg (show ¬ nI 2 = 1 by decide), if_pos (show nI 2 = 2 by decide)]
    · rw [if_neg (show ¬ nI 3 = 0 by decide), if_neg (show ¬ nI 3 = 1 by decide), if_neg (show ¬ nI 3 = 2 by decide), if_pos (show nI 3 = 3 by decide)]
    · rw [if_neg (show ¬ nI 4 = 0 by decide), if_neg (show ¬ nI 4 = 1 by decide), if_neg (show ¬ nI 4 = 2 by decide), if_neg (show ¬ nI 4 = 3 by decide), if_pos (show nI 4 = 4 by decide)]
    · rw [if_neg (show ¬ nI 5 = 0 by decide), if_neg (show ¬ nI 5 = 1 by decide), if_neg (show ¬ nI 5 = 2 by decide), if_neg (show ¬ nI 5 = 3 by decide), if_neg (show ¬ nI 5 = 4 by decide), if_pos (show nI 5 = 5 by decide)]
    · rw [if_neg (show ¬ nI 6 = 0 by decide), if_neg (show ¬ nI 6 = 1 by decide), if_neg (show ¬ nI 6 = 2 by decide), if_neg (show ¬ nI 6 = 3 by decide), if_neg (show ¬ nI 6 = 4 by decide), if_neg (show ¬ nI 6 = 5 by decide), if_pos (show nI 6 = 6 by decide)]
    · rw [if_neg (show ¬ nI 7 = 0 by decide), if_neg (show ¬ nI 7 = 1 by decide), if_neg (show ¬ nI 7 = 2 by decide), if_neg (show ¬ nI 7 = 3 by decide), if_neg (show ¬ nI 7 = 4 by decide), if_neg (show ¬ nI 7 = 5 by decide), if_neg (show ¬ nI 7 = 6 by decide), if_pos (show nI 7 = 7 by decide)]
    · rw [if_neg (show ¬ nI 8 = 0 by decide), if_neg (show ¬ nI 8 = 1 by decide), if_neg (show ¬ nI 8 = 2 by decide), if_neg (show ¬ nI 8 = 3 by decide), if_neg (show ¬ nI 8 = 4 by decide), if_neg (show ¬ nI 8 = 5 by decide), if_neg (show ¬ nI 8 = 6 by decide), if_neg (show ¬ nI 8 = 7 by decide), if_pos (show nI 8 = 8 by decide)]
    · rw [if_neg (show ¬ nI 9 = 0 by decide), if_neg (show ¬ nI 9 = 1 by decide), if_neg (show ¬ nI 9 = 2 by decide), if_neg (show ¬ nI 9 = 3 by decide), if_neg (show ¬ nI 9 = 4 by decide), if_neg (show ¬ nI 9 = 5 by decide), if_neg (show ¬ nI 9 = 6 by decide), if_neg (show ¬ nI 9 = 7 by decide), if_neg (show ¬ nI 9 = 8 by decide), if_pos (show nI 9 = 9 by decide)]
    · rw [if_neg (show ¬ nI 10 = 0 by decide), if_neg (show ¬ nI 10 = 1 by decide), if_neg (show ¬ nI 10 = 2 by decide), if_neg (show ¬ nI 10 = 3 by decide), if_neg (show ¬ nI 10 = 4 by decide), if_neg (show ¬ nI 10 = 5 by decide), if_neg (show ¬ nI 10 = 6 by decide), if_neg (show ¬ nI 10 = 7 by decide), if_neg (show ¬ nI 10 = 8 by decide), if_neg (show ¬ nI 10 = 9 by decide), if_pos (show nI 10 = 10 by decide)]
    · rw [if_neg (show ¬ nI 11 = 0 by decide), if_neg (show ¬ nI 11 = 1 by decide), if_neg (show ¬ nI 11 = 2 by decide), if_neg (show ¬ nI 11 = 3 by decide), if_neg (show ¬ nI 11 = 4 by decide), if_neg (show ¬ nI 11 = 5 by decide), if_neg (show ¬ nI 11 = 6 by decide), if_neg (show ¬ nI 11 = 7 by decide), if_neg (show ¬ nI 11 = 8 by decide), if_neg (show ¬ nI 11 = 9 by decide), if_neg (show ¬ nI 11 = 10 by decide), if_pos (show nI 11 = 11 by decide)]
    · rw [if_neg (show ¬ nI 12 = 0 by decide), if_neg (show ¬ nI 12 = 1 by decide), if_neg (show ¬ nI 12 = 2 by decide), if_neg (show ¬ nI 12 = 3 by decide), if_neg (show ¬ nI 12 = 4 by decide), if_neg (show ¬ nI 12 = 5 by decide), if_neg (show ¬ nI 12 = 6 by decide), if_neg (show ¬ nI 12 = 7 by decide), if_neg (show ¬ nI 12 = 8 by decide), if_neg (show ¬ nI 12 = 9 by decide), if_neg (show ¬ nI 12 = 10 by decide), if_neg (show ¬ nI 12 = 11 by decide), if_pos (show nI 12 = 12 by decide)]
    · rw [if_neg (show ¬ nI 13 = 0 by decide), if_neg (show ¬ nI 13 = 1 by decide), if_neg (show ¬ nI 13 = 2 by decide), if_neg (show ¬ nI 13 = 3 by decide), if_neg (show ¬ nI 13 = 4 by decide), if_neg (show ¬ nI 13 = 5 by decide), if_neg (show ¬ nI 13 = 6 by decide), if_neg (show ¬ nI 13 = 7 by decide), if_neg (show ¬ nI 13 = 8 by decide), if_neg (show ¬ nI 13 = 9 by decide), if_neg (show ¬ nI 13 = 10 by decide), if_neg (show ¬ nI 13 = 11 by decide), if_neg (show ¬ nI 13 = 12 by decide), if_pos (show nI 13 = 13 by decide)]
    · rw [if_neg (show ¬ nI 14 = 0 by decide), if_neg (show ¬ nI 14 = 1 by decide), if_neg (show ¬ nI 14 = 2 by decide), if_neg (show ¬ nI 14 = 3 by decide), if_neg (show ¬ nI 14 = 4 by decide), if_neg (show ¬ nI 14 = 5 by decide), if_neg (show ¬ nI 14 = 6 by decide), if_neg (show ¬ nI 14 = 7 by decide), if_neg (show ¬ nI 14 = 8 by decide), if_neg (show ¬ nI 14 = 9 by decide), if_neg (show ¬ nI 14 = 10 by decide), if_neg (show ¬ nI 14 = 11 by decide), if_neg (show ¬ nI 14 = 12 by decide), if_neg (show ¬ nI 14 = 13 by decide), if_pos (show nI 14 = 14 by decide)]
    · rw [if_neg (show ¬ nI 15 = 0 by decide), if_neg (show ¬ nI 15 = 1 by decide), if_neg (show ¬ nI 15 = 2 by decide), if_neg (show ¬ nI 15 = 3 by decide), if_neg (show ¬ nI 15 = 4 by decide), if_neg (show ¬ nI 15 = 5 by decide), if_neg (show ¬ nI 15 = 6 by decide), if_neg (show ¬ nI 15 = 7 by decide), if_neg (show ¬ nI 15 = 8 by decide), if_neg (show ¬ nI 15 = 9 by decide), if_neg (show ¬ nI 15 = 10 by decide), if_neg (show ¬ nI 15 = 11 by decide), if_neg (show ¬ nI 15 = 12 by decide), if_neg (show ¬ nI 15 = 13 by decide), if_neg (show ¬ nI 15 = 14 by decide), if_pos (show nI 15 = 15 by decide)]
  have e := (P_many (T := T) h hI hT u).2.1 c
  unfold fX7_many at e
  rw [if_neg hu] at e
  exact e
theorem farmk (h : Rl na nb nc nd g m) (hI : Iv na nb nc nd m) {k : Nat} (hk : k < na) : fX6_farmAt g (nI k) = 0 ∧ (∀ m2, ¬ fX7_isFarm na nb nc nd T m2 (nI k) = 0) ∧ fX6_needFarm g (nI k) = 0 := by
  have z := hI.1
  have q : ∀ m2, ¬ fX7_isFarm na nb nc nd T m2 (nI k) = 0 := fun _ => isk hk (by omega)
  refine ⟨?_, q, ?_⟩
  · rcases farm_is (T := T) h hI (nI k) with ⟨a1, _⟩ | ⟨_, a2⟩
    · exact a1
    · exact absurd (a2 m) (q m)
  · rcases need_is (T := T) h hI (nI k) with ⟨a1, _⟩ | ⟨_, a2⟩
    · exact a1
    · exact absurd (a2 m) (q m)
theorem baskk (h : Rl na nb nc nd g m) (hI : Iv na nb nc nd m) {k : Nat} (hk : k < nb) : fX6_basketAt g (nI k) = 0 ∧ (∀ m2, ¬ fX7_isBasket na nb nc nd T m2 (nI k) = 0) := by
  have z := hI.1
  have q : ∀ m2, ¬ fX7_isBasket na nb nc nd T m2 (nI k) = 0 := fun _ => isk hk (by omega)
  refine ⟨?_, q⟩
  rcases bask_is (T := T) h hI (nI k) with ⟨a1, _⟩ | ⟨_, a2⟩
  · exact a1
  · exact absurd (a2 m) (q m)
theorem bedk (h : Rl na nb nc nd g m) (hI : Iv na nb nc nd m) {k : Nat} (hk : k < nc) : fX6_bedAt g (nI k) = 0 ∧ (∀ m2, ¬ fX7_isBed na nb nc nd T m2 (nI k) = 0) := by
  have z := hI.1
  have q : ∀ m2, ¬ fX7_isBed na nb nc nd T m2 (nI k) = 0 := fun _ => isk hk (by omega)
  refine ⟨?_, q⟩
  rcases bed_is (T := T) h hI (nI k) with ⟨a1, _⟩ | ⟨_, a2⟩
  · exact a1
  · exact absurd (a2 m) (q m)
theorem lotk (h : Rl na nb nc nd g m) (hI : Iv na nb nc nd m) {k : Nat} (hk : k < nd) : fX6_lotAt g (nI k) = 0 ∧ (∀ m2, ¬ fX7_isLot na nb nc nd T m2 (nI k) = 0) := by
  have z := hI.1
  have q : ∀ m2, ¬ fX7_isLot na nb nc nd T m2 (nI k) = 0 := fun _ => isk hk (by omega)
  refine ⟨?_, q⟩
  rcases lot_is (T := T) h hI (nI k) with ⟨a1, _⟩ | ⟨_, a2⟩
  · exact a1
  · exact absurd (a2 m) (q m)
theorem farm_v (h : Rl na nb nc nd g m) (hI : Iv na nb nc nd m) (hT : Tr g) {k : Nat} {u : Int32} (hk : k < na) (hu : ¬ fX7_is u 0 4 = 0) : (fX6_ofFarm g (nI k) u).2 = fX7_ofFarmNow na nb nc nd T (u2 m 0 20 0) (nI k) u := by
  obtain ⟨a1, a2, _⟩ := farmk (T := T) h hI hk
  have e := (P_ofFarm (T := T) h hI hT (nI k) u).2.1 (C_ofFarm a1 hu)
  unfold fX7_ofFarm at e
  rw [if_neg (a2 _), if_neg hu] at e
  exact e
theorem bask_v (h : Rl na nb nc nd g m) (hI : Iv na nb nc nd m) (hT : Tr g) {k : Nat} {u : Int32} (hk : k < nb) (hu : ¬ fX7_is u 0 5 = 0) : (fX6_ofBasket g (nI k) u).2 = u2 m 0 20 0 (200 + k) u.toNatClampNeg := by
  have z := hI.1
  obtain ⟨a1, a2⟩ := baskk (T := 0) h hI hk
  have e := (P_ofBasket (T := 0) h hI hT (nI k) u).2.1 (C_ofBasket a1 hu)
  unfold fX7_ofBasket at e
  rw [if_neg (a2 _), if_neg hu] at e
  have hN : (nI k).toNatClampNeg = k := nI_clamp (by omega)
  dsimp only at e
  rw [e, hN, u2_nr (by omega)]
theorem tank_v (h : Rl na nb nc nd g m) (hI : Iv na nb nc nd m) (hT : Tr g) {x u : Int32} (hx : ¬ fX7_isTank x = 0) (hu : ¬ fX7_is u 0 4 = 0) : (fX6_ofTank g x u).2 = fX7_ofTankNow na nb nc nd T (u2 m 0 20 0) x u := by
  have a1 : fX6_tankAt g x = 0 := by
    rcases tank_is (g := g) x with ⟨a1, _⟩ | ⟨_, a2⟩
    · exact a1
    · exact absurd a2 hx
  have e := (P_ofTank (T := T) h hI hT x u).2.1 (C_ofTank a1 hu)
  unfold fX7_ofTank at e
  rw [if_neg hx, if_neg hu] at e
  exact e
theorem ready_v (h : Rl na nb nc nd g m) (hI : Iv na nb nc nd m) (hT : Tr g) {x u : Int32} (hx : ¬ fX7_isTank x = 0) (hu : ¬ fX7_isWarmth u = 0) : (fX6_readyIn g x u).2 = fX7_readyNow na nb nc nd T (u2 m 0 20 0) x u := by
  have a1 : fX6_tankAt g x = 0 := by
    rcases tank_is (g := g) x with ⟨a1, _⟩ | ⟨_, a2⟩
    · exact a1
    · exact absurd a2 hx
  have b1 : fX6_needWarmth g u = 0 := by
    rcases warm_is (g := g) u with ⟨a1, _⟩ | ⟨_, a2⟩
    · exact a1
    · exact absurd a2 hu
  have c : (fX6_readyIn g x u).1 = 0 := by
    unfold fX6_readyIn
    rw [if_pos a1, if_pos b1]
    split
    · exact ready_code _ _
    · rfl
  have e := (P_readyIn (T := T) h hI hT x u).2.1 c
  unfold fX7_readyIn at e
  rw [if_neg hx, if_neg hu] at e
  exact e
theorem bed_v (h : Rl na nb nc nd g m) (hI : Iv na nb nc nd m) (hT : Tr g) {k : Nat} {u : Int32} (hk : k < nc) (hu : ¬ fX7_is u 0 7 = 0) : (fX6_ofBed g (nI k) u).2 = fX7_ofBedNow na nb nc nd T (u2 m 0 20 0) (nI k) u := by
  obtain ⟨a1, a2⟩ := bedk (T := T) h hI hk
  have e := (P_ofBed (T := T) h hI hT (nI k) u).2.1 (C_ofBed a1 hu)
  unfold fX7_ofBed at e
  rw [if_neg (a2 _), if_neg hu] at e
  exact e
theorem dry_v (h : Rl na nb nc nd g m) (hI : Iv na nb nc nd m) (hT : Tr g) {k : Nat} {u : Int32} (hk : k < nc) (hu : ¬ fX7_isWarmth u = 0) : (fX6_dryIn g (nI k) u).2 = fX7_dryNow na nb nc nd T (u2 m 0 20 0) (nI k) u := by
  obtain ⟨a1, a2⟩ := bedk (T := T) h hI hk
  have b1 : fX6_needWarmth g u = 0 := by
    rcases warm_is (g := g) u with ⟨a1, _⟩ | ⟨_, a2⟩
    · exact a1
    · exact absurd a2 hu
  have c : (fX6_dryIn g (nI k) u).1 = 0 := by
    unfold fX6_dryIn
    rw [if_pos a1, if_pos b1]
    split
    · exact dry_code _ _ _
    · rfl
  have e := (P_dryIn (T := T) h hI hT (nI k) u).2.1 c
  unfold fX7_dryIn at e
  rw [if_neg (a2 _), if_neg hu] at e
  exact e
theorem lot_v (h : Rl na nb nc nd g m) (hI : Iv na nb nc nd m) (hT : Tr g) {k : Nat} {u : Int32} (hk : k < nd) (hu : ¬ fX7_is u 0 11 = 0) : (fX6_ofLot g (nI k) u).2 = fX7_ofLotNow na nb nc nd T (u2 m 0 20 0) (nI k) u := by
  obtain ⟨a1, a2⟩ := lotk (T := T) h hI hk
  have e := (P_ofLot (T := T) h hI hT (nI k) u).2.1 (C_ofLot a1 hu)
  unfold fX7_ofLot at e
  rw [if_neg (a2 _), if_neg hu] at e
  exact e
theorem kilos_v (h : Rl na nb nc nd g m) (hI : Iv na nb nc nd m) {k j : Nat} (hk : k < nd) (hj : j < na) : (fX6_kilosOf g (nI k) (nI j)).2 = u2 m 0 20 0 (308 + (nI k).toNatClampNeg) (11 + j) := by
  have z := hI.1
  have a1 := (lotk (T := 0) h hI hk).1
  have b1 := (farmk (T := 0) h hI hj).2.2
  have hN : (nI k).toNatClampNeg = k := nI_clamp (by omega)
  have hN2 : (nI j).toNatClampNeg = j := nI_clamp (by omega)
  unfold fX6_kilosOf
  rw [if_pos a1, if_pos b1, hN, hN2]
  exact (h.th (v := 0)).l4 hI.th hk (by omega)

theorem dFarms_loop (h : Rl na nb nc nd g m) (hI : Iv na nb nc nd m) (hT : Tr g) {d0 : Int64} : ∀ (n f k : Nat) (d : Int64), k + n = na → n < f → fX6_digestFarms_L5 g d0 f k d = fX7_digest_L37 na nb nc nd T (u2 m 0 20 0) n k d := by
  intro n
  have z := hI.1
  induction n with
  | zero =>
    intro f k d hkn hf
    obtain ⟨f, rfl⟩ : ∃ f', f = f' + 1 := ⟨f - 1, by omega⟩
    rw [fX6_digestFarms_L5, if_pos (show g 0 0 7 ≤ nI k by rw [h.a, show k = na by omega]; exact Int32.le_refl _)]; rfl
  | succ n ih =>
    intro f k d hkn hf
    obtain ⟨f, rfl⟩ : ∃ f', f = f' + 1 := ⟨f - 1, by omega⟩
    have hk : k < na := by omega
    rw [fX6_digestFarms_L5, if_neg (show ¬ g 0 0 7 ≤ nI k by rw [h.a]; exact nI_ge (by omega) (by omega)), fX7_digest_L37]
    rw [farm_v (T := T) (u := 0) h hI hT hk (by decide), farm_v (T := T) (u := 1) h hI hT hk (by decide), farm_v (T := T) (u := 2) h hI hT hk (by decide), farm_v (T := T) (u := 3) h hI hT hk (by decide), farm_v (T := T) (u := 4) h hI hT hk (by decide)]
    exact ih f (k + 1) _ (by omega) (by omega)
theorem dBaskets_loop (h : Rl na nb nc nd g m) (hI : Iv na nb nc nd m) (hT : Tr g) {d0 : Int64} : ∀ (n f k : Nat) (d : Int64), k + n = nb → n < f → fX6_digestBaskets_L5 g d0 f k d = fX7_digest_L85 na nb nc nd T (u2 m 0 20 0) n k d := by
  intro n
  have z := hI.1
  induction n with
  | zero =>
    intro f k d hkn hf
    obtain ⟨f, rfl⟩ : ∃ f', f = f' + 1 := ⟨f - 1, by omega⟩
    rw [fX6_digestBaskets_L5, if_pos (show g 0 0 8 ≤ nI k by rw [h.b, show k = nb by omega]; exact Int32.le_refl _)]; rfl
  | succ n ih =>
    intro f k d hkn hf
    obtain ⟨f, rfl⟩ : ∃ f', f = f' + 1 := ⟨f - 1, by omega⟩
    have hk : k < nb := by omega
    rw [fX6_digestBaskets_L5, if_neg (show ¬ g 0 0 8 ≤ nI k by rw [h.b]; exact nI_ge (by omega) (by omega)), fX7_digest_L85]
    rw [bask_v (u := 0) h hI hT hk (by decide), bask_v (u := 1) h hI hT hk (by decide), bask_v (u := 2) h hI hT hk (by decide), bask_v (u := 3) h hI hT hk (by decide), bask_v (u := 4) h hI hT hk (by decide), bask_v (u := 5) h hI hT hk (by decide)]
    exact ih f (k + 1) _ (by omega) (by omega)
theorem dBeds_loop (h : Rl na nb nc nd g m) (hI : Iv na nb nc nd m) (hT : Tr g) {d0 : Int64} : ∀ (n f k : Nat) (d : Int64), k + n = nc → n < f → fX6_digestBeds_L5 g d0 f k d = fX7_digest_L190 na nb nc nd T (u2 m 0 20 0) n k d := by
  intro n
  have z := hI.1
  induction n with
  | zero =>
    intro f k d hkn hf
    obtain ⟨f, rfl⟩ : ∃ f', f = f' + 1 := ⟨f - 1, by omega⟩
    rw [fX6_digestBeds_L5, if_pos (show g 0 0 9 ≤ nI k by rw [h.c, show k = nc by omega]; exact Int32.le_refl _)]; rfl
  | succ n ih =>
    intro f k d hkn hf
    obtain ⟨f, rfl⟩ : ∃ f', f = f' + 1 := ⟨f - 1, by omega⟩
    have hk : k < nc := by omega
    rw [fX6_digestBeds_L5, if_neg (show ¬ g 0 0 9 ≤ nI k by rw [h.c]; exact nI_ge (by omega) (by omega)), fX7_digest_L190]
    rw [bed_v (T := T) (u := 0) h hI hT hk (by decide), bed_v (T := T) (u := 1) h hI hT hk (by decide), bed_v (T := T) (u := 2) h hI hT hk (by decide), bed_v (T := T) (u := 3) h hI hT hk (by decide), bed_v (T := T) (u := 4) h hI hT hk (by decide), bed_v (T := T) (u := 5) h hI hT hk (by decide), bed_v (T := T) (u := 6) h hI hT hk (by decide), bed_v (T := T) (u := 7) h hI hT hk (by decide), dry_v (T := T) (u := 25) h hI hT hk (by decide)]
    exact ih f (k + 1) _ (by omega) (by omega)
theorem dBy_loop (h : Rl na nb nc nd g m) (hI : Iv na nb nc nd m) {d0 : Int64} {k : Nat} (hk : k < nd) : ∀ (n f j : Nat) (d : Int64), j + n = na → n < f → fX6_digestLots_L49 g d0 k f j d = fX7_digest_L281 na nb nc nd T (u2 m 0 20 0) (nI k) n j d := by
  intro n
  have z := hI.1
  induction n with
  | zero =>
    intro f j d hkn hf
    obtain ⟨f, rfl⟩ : ∃ f', f = f' + 1 := ⟨f - 1, by omega⟩
    rw [fX6_digestLots_L49, if_pos (show g 0 0 7 ≤ nI j by rw [h.a, show j = na by omega]; exact Int32.le_refl _)]; rfl
  | succ n ih =>
    intro f j d hkn hf
    obtain ⟨f, rfl⟩ : ∃ f', f = f' + 1 := ⟨f - 1, by omega⟩
    have hj : j < na := by omega
    rw [fX6_digestLots_L49, if_neg (show ¬ g 0 0 7 ≤ nI j by rw [h.a]; exact nI_ge (by omega) (by omega)), fX7_digest_L281, kilos_v h hI hk hj]
    exact ih f (j + 1) _ (by omega) (by omega)
theorem dLots_loop (h : Rl na nb nc nd g m) (hI : Iv na nb nc nd m) (hT : Tr g) {d0 : Int64} : ∀ (n f k : Nat) (d : Int64), k + n = nd → n < f → fX6_digestLots_L5 g d0 f k d = fX7_digest_L244 na nb nc nd T (u2 m 0 20 0) n k d := by
  intro n
  have z := hI.1
  induction n with
  | zero =>
    intro f k d hkn hf
    obtain ⟨f, rfl⟩ : ∃ f', f = f' + 1 := ⟨f - 1, by omega⟩
    rw [fX6_digestLots_L5, if_pos (show g 0 0 10 ≤ nI k by rw [h.d, show k = nd by omega]; exact Int32.le_refl _)]; rfl
  | succ n ih =>
    intro f k d hkn hf
    obtain ⟨f, rfl⟩ : ∃ f', f = f' + 1 := ⟨f - 1, by omega⟩
    have hk : k < nd := by omega
    rw [fX6_digestLots_L5, if_neg (show ¬ g 0 0 10 ≤ nI k by rw [h.d]; exact nI_ge (by omega) (by omega)), fX7_digest_L244]
    rw [lot_v (T := T) (u := 0) h hI hT hk (by decide), lot_v (T := T) (u := 1) h hI hT hk (by decide), lot_v (T := T) (u := 2) h hI hT hk (by decide), lot_v (T := T) (u := 3) h hI hT hk (by decide), lot_v (T := T) (u := 4) h hI hT hk (by decide), lot_v (T := T) (u := 5) h hI hT hk (by decide), lot_v (T := T) (u := 6) h hI hT hk (by decide), lot_v (T := T) (u := 7) h hI hT hk (by decide), lot_v (T := T) (u := 8) h hI hT hk (by decide), lot_v (T := T) (u := 9) h hI hT hk (by decide), lot_v (T := T) (u := 10) h hI hT hk (by decide), lot_v (T := T) (u := 11) h hI hT hk (by decide), dBy_loop (T := T) h hI hk na 7 0 _ (by omega) (by omega)]
    exact ih f (k + 1) _ (by omega) (by omega)
theorem P_digest (h : Rl na nb nc nd g m) (hI : Iv na nb nc nd m) (hT : Tr g) (S : Int64) : (fX6_digest g).1 = fX7_digest na nb nc nd T m S ∧ Rl na nb nc nd (fX6_digest g).2 (u2 m 0 20 0) ∧ Iv na nb nc nd (u2 m 0 20 0) ∧ Tr (fX6_digest g).2 := by
  have z := hI.1
  have B := P_bestBlend (T := T) h hI hT
  have b1 : (fX6_bestBlend g).1 = fX7_bestNow na nb nc nd T (u2 m 0 20 0) := B.2.1 rfl
  refine ⟨?_, B.2.2.1, hI.th, B.2.2.2.2⟩
  unfold fX6_digest fX7_digest fX6_digestLots fX6_digestBeds fX6_digestBaskets fX6_digestFarms fX6_digestTanks
  dsimp only
  rw [b1, dLots_loop (T := T) h hI hT nd 13 0 _ (by omega) (by omega), dBeds_loop (T := T) h hI hT nc 6 0 _ (by omega) (by omega), dBaskets_loop (T := T) h hI hT nb 21 0 _ (by omega) (by omega), dFarms_loop (T := T) h hI hT na 7 0 _ (by omega) (by omega)]
  rw [tank_v (T := T) (x := 0) (u := 0) h hI hT (by decide) (by decide), tank_v (T := T) (x := 0) (u := 1) h hI hT (by decide) (by decide), tank_v (T := T) (x := 0) (u := 2) h hI hT (by decide) (by decide), tank_v (T := T) (x := 0) (u := 3) h hI hT (by decide) (by decide), tank_v (T := T) (x := 0) (u := 4) h hI hT (by decide) (by decide), ready_v (T := T) (x := 0) (u := 20) h hI hT (by decide) (by decide), tank_v (T := T) (x := 1) (u := 0) h hI hT (by decide) (by decide), tank_v (T := T) (x := 1) (u := 1) h hI hT (by decide) (by decide), tank_v (T := T) (x := 1) (u := 2) h hI hT (by decide) (by decide), tank_v (T := T) (x := 1) (u := 3) h hI hT (by decide) (by decide), tank_v (T := T) (x := 1) (u := 4) h hI hT (by decide) (by decide), ready_v (T := T) (x := 1) (u := 20) h hI hT (by decide) (by decide), tank_v (T := T) (x := 2) (u := 0) h hI hT (by decide) (by decide), tank_v (T := T) (x := 2) (u := 1) h hI hT (by decide) (by decide), tank_v (T := T) (x := 2) (u := 2) h hI hT (by decide) (by decide), tank_v (T := T) (x := 2) (u := 3) h hI hT (by decide) (by decide), tank_v (T := T) (x := 2) (u := 4) h hI hT (by decide) (by decide), ready_v (T := T) (x := 2) (u := 20) h hI hT (by decide) (by decide)]
  rw [many_v (T := T) (u := 0) h hI hT (by decide), many_v (T := T) (u := 1) h hI hT (by decide), many_v (T := T) (u := 2) h hI hT (by decide), many_v (T := T) (u := 3) h hI hT (by decide), many_v (T := T) (u := 4) h hI hT (by decide), many_v (T := T) (u := 5) h hI hT (by decide), many_v (T := T) (u := 6) h hI hT (by decide), many_v (T := T) (u := 7) h hI hT (by decide), many_v (T := T) (u := 8) h hI hT (by decide), many_v (T := T) (u := 9) h hI hT (by decide), many_v (T := T) (u := 10) h hI hT (by decide), many_v (T := T) (u := 11) h hI hT (by decide), many_v (T := T) (u := 12) h hI hT (by decide), many_v (T := T) (u := 13) h hI hT (by decide), many_v (T := T) (u := 14) h hI hT (by decide), many_v (T := T) (u := 15) h hI hT (by decide)]
  rfl
end DG
