/-! ===== what is asked ===== -/
section AS
variable {na nb nc nd T : Nat} {g g2 : Gd} {m m2 : Md}
theorem in_u {u : Int32} {N : Nat} (hN : N ≤ 20) (h : ¬ fX7_is u 0 (nI N) = 0) : ∃ j, j ≤ N ∧ u = nI j := by
  have q0 : (0 : Int32).toInt = 0 := rfl
  rcases rng_is u 0 (nI N) with ⟨b1, b2, b3, b4⟩ | ⟨b1, b2⟩ | ⟨b1, b2, b3, b4⟩
  · rw [lt_ti, q0] at b1
    rw [le_ti, ti_nI (by omega)] at b2
    exact ⟨u.toInt.toNat, by omega, ti_eq (by rw [ti_nI (by omega)]; omega)⟩
  · exact absurd b2 h
  · exact absurd b4 h
theorem Ok.rd (h : Rl na nb nc nd g m) (hI : Iv na nb nc nd m) (hT : Tr g) {v v2 : Int32} (e : v = v2) : Ok na nb nc nd 0 0 v g v2 (u2 m 0 20 0) := ⟨u2_eq _ _ _ _, fun _ => e, h.th, hI.th, hT⟩
theorem isIn_is {r : Nat} (h : m r 10 = 0 ∨ m r 10 = 1) : (m r 10 = 0 ∧ fX7_isIn na nb nc nd T m r = 0) ∨ (m r 10 = 1 ∧ ¬ m r 10 = 0 ∧ ¬ fX7_isIn na nb nc nd T m r = 0) := by
  unfold fX7_isIn
  rcases h with h | h
  · refine Or.inl ⟨h, ?_⟩
    rw [if_neg (by rw [h]; decide)]
  · refine Or.inr ⟨h, by rw [h]; decide, ?_⟩
    rw [if_pos h]; decide

theorem store_loop (h : Rl na nb nc nd g m) (hI : Iv na nb nc nd m) {x u : Int32} (hx : x.toNatClampNeg < 6) : ∀ (n f k : Nat) (a : Int32), k + n = nd → n < f → fX6_kilosInStore_L4 g x f k a = fX7_ofFarmNow_L30 na nb nc nd T m x u n k a := by
  intro n
  have z := hI.1
  induction n with
  | zero =>
    intro f k a hkn hf
    obtain ⟨f, rfl⟩ : ∃ f', f = f' + 1 := ⟨f - 1, by omega⟩
    rw [fX6_kilosInStore_L4, if_pos (show g 0 0 10 ≤ nI k by rw [h.d, show k = nd by omega]; exact Int32.le_refl _)]; rfl
  | succ n ih =>
    intro f k a hkn hf
    obtain ⟨f, rfl⟩ : ∃ f', f = f' + 1 := ⟨f - 1, by omega⟩
    have hk : k < nd := by omega
    rw [fX6_kilosInStore_L4, if_neg (show ¬ g 0 0 10 ≤ nI k by rw [h.d]; exact nI_ge (by omega) (by omega)), fX7_ofFarmNow_L30, h.l3 hI hk (k := 10) (by decide), h.l4 hI hk hx]
    rcases isIn_is (T := T) (na := na) (nb := nb) (nc := nc) (nd := nd) (hI.2.2.2.2.2.2.1 k hk).2.2.2.2.2.1 with ⟨b1, b2⟩ | ⟨b1, b2, b3⟩
    · rw [if_pos b1, if_pos b2, Int32.add_zero]; exact ih f (k + 1) a (by omega) (by omega)
    · rw [if_neg b2, if_neg b3]; exact ih f (k + 1) _ (by omega) (by omega)
theorem wait_loop (h : Rl na nb nc nd g m) (hI : Iv na nb nc nd m) {u : Int32} : ∀ (n f k : Nat) (a : Int32), k + n = nb → n < f → fX6_waitingKilos_L4 g f k a = fX7_manyNow_L10 na nb nc nd T m u n k a := by
  intro n
  have z := hI.1
  induction n with
  | zero =>
    intro f k a hkn hf
    obtain ⟨f, rfl⟩ : ∃ f', f = f' + 1 := ⟨f - 1, by omega⟩
    rw [fX6_waitingKilos_L4, if_pos (show g 0 0 8 ≤ nI k by rw [h.b, show k = nb by omega]; exact Int32.le_refl _)]; rfl
  | succ n ih =>
    intro f k a hkn hf
    obtain ⟨f, rfl⟩ : ∃ f', f = f' + 1 := ⟨f - 1, by omega⟩
    have hk : k < nb := by omega
    rw [fX6_waitingKilos_L4, if_neg (show ¬ g 0 0 8 ≤ nI k by rw [h.b]; exact nI_ge (by omega) (by omega)), fX7_manyNow_L10, h.ba hI hk (k := 3) (by decide), h.ba hI hk (k := 1) (by decide)]
    by_cases c : m (200 + k) 3 = 0
    · rw [if_pos c, if_pos c]; exact ih f (k + 1) _ (by omega) (by omega)
    · rw [if_neg c, if_neg c, Int32.add_zero]; exact ih f (k + 1) _ (by omega) (by omega)
theorem onbeds_loop (h : Rl na nb nc nd g m) (hI : Iv na nb nc nd m) {u v3 v2 : Int32} : ∀ (n f k : Nat) (a : Int32), k + n = nc → n < f → fX6_kilosOnBeds_L4 g f k a = fX7_manyNow_L106 na nb nc nd T m u v3 v2 n k a := by
  intro n
  have z := hI.1
  induction n with
  | zero =>
    intro f k a hkn hf
    obtain ⟨f, rfl⟩ : ∃ f', f = f' + 1 := ⟨f - 1, by omega⟩
    rw [fX6_kilosOnBeds_L4, if_pos (show g 0 0 9 ≤ nI k by rw [h.c, show k = nc by omega]; exact Int32.le_refl _)]; rfl
  | succ n ih =>
    intro f k a hkn hf
    obtain ⟨f, rfl⟩ : ∃ f', f = f' + 1 := ⟨f - 1, by omega⟩
    have hk : k < nc := by omega
    rw [fX6_kilosOnBeds_L4, if_neg (show ¬ g 0 0 9 ≤ nI k by rw [h.c]; exact nI_ge (by omega) (by omega)), fX7_manyNow_L106, h.b3 hI hk (k := 0) (by decide)]
    exact ih f (k + 1) _ (by omega) (by omega)
theorem coins_loop (h : Rl na nb nc nd g m) (hI : Iv na nb nc nd m) {u v6 v5 v4 v3 v2 : Int32} : ∀ (n f k : Nat) (a : Int32), k + n = na → n < f → fX6_allCoins_L4 g f k a = fX7_manyNow_L223 na nb nc nd T m u v6 v5 v4 v3 v2 n k a := by
  intro n
  have z := hI.1
  induction n with
  | zero =>
    intro f k a hkn hf
    obtain ⟨f, rfl⟩ : ∃ f', f = f' + 1 := ⟨f - 1, by omega⟩
    rw [fX6_allCoins_L4, if_pos (show g 0 0 7 ≤ nI k by rw [h.a, show k = na by omega]; exact Int32.le_refl _)]; rfl
  | succ n ih =>
    intro f k a hkn hf
    obtain ⟨f, rfl⟩ : ∃ f', f = f' + 1 := ⟨f - 1, by omega⟩
    have hk : k < na := by omega
    rw [fX6_allCoins_L4, if_neg (show ¬ g 0 0 7 ≤ nI k by rw [h.a]; exact nI_ge (by omega) (by omega)), fX7_manyNow_L223, h.fa hI hk (k := 2) (by decide)]
    exact ih f (k + 1) _ (by omega) (by omega)
theorem inst_loop (h : Rl na nb nc nd g m) (hI : Iv na nb nc nd m) {u v4 v3 v2 : Int32} : ∀ (n f k : Nat) (a b : Int32), k + n = nd → n < f → fX6_lotsInStore_L4 g f k a = (fX7_manyNow_L155 na nb nc nd T m u v4 v3 v2 n k a b).1 ∧ fX6_allKilosInStore_L4 g f k b = (fX7_manyNow_L155 na nb nc nd T m u v4 v3 v2 n k a b).2 := by
  intro n
  have z := hI.1
  induction n with
  | zero =>
    intro f k a b hkn hf
    obtain ⟨f, rfl⟩ : ∃ f', f = f' + 1 := ⟨f - 1, by omega⟩
    have c : g 0 0 10 ≤ nI k := by rw [h.d, show k = nd by omega]; exact Int32.le_refl _
    rw [fX6_lotsInStore_L4, if_pos c, fX6_allKilosInStore_L4, if_pos c]; exact ⟨rfl, rfl⟩
  | succ n ih =>
    intro f k a b hkn hf
    obtain ⟨f, rfl⟩ : ∃ f', f = f' + 1 := ⟨f - 1, by omega⟩
    have hk : k < nd := by omega
    have c : ¬ g 0 0 10 ≤ nI k := by rw [h.d]; exact nI_ge (by omega) (by omega)
    rw [fX6_lotsInStore_L4, if_neg c, fX6_allKilosInStore_L4, if_neg c, fX7_manyNow_L155, h.l3 hI hk (k := 10) (by decide), h.l3 hI hk (k := 0) (by decide)]
    rcases isIn_is (T := T) (na := na) (nb := nb) (nc := nc) (nd := nd) (hI.2.2.2.2.2.2.1 k hk).2.2.2.2.2.1 with ⟨b1, b2⟩ | ⟨b1, b2, b3⟩
    · rw [if_pos b1, if_pos b1, if_pos b2, b1, Int32.add_zero, Int32.add_zero]; exact ih f (k + 1) a b (by omega) (by omega)
    · rw [if_neg b2, if_neg b2, if_neg b3, b1]; exact ih f (k + 1) _ _ (by omega) (by omega)

theorem P_ofBasket (h : Rl na nb nc nd g m) (hI : Iv na nb nc nd m) (hT : Tr g) (x u : Int32) : Ok na nb nc nd (k12 (fX6_ofBasket g x u).1) (fX6_ofBasket g x u).1 (fX6_ofBasket g x u).2 g (fX7_ofBasket na nb nc nd T m x u).1 (fX7_ofBasket na nb nc nd T m x u).2 := by
  unfold fX6_ofBasket fX7_ofBasket
  rcases bask_is (T := T) h hI x with ⟨a1, a2, a3, a4⟩ | ⟨a1, a2⟩
  · rw [if_pos a1, if_neg (a2 _)]
    by_cases c2 : fX7_is u 0 5 = 0
    · rw [if_pos c2, if_neg (show ¬ u = 0 by rintro rfl; exact absurd c2 (by decide)), if_neg (show ¬ u = 1 by rintro rfl; exact absurd c2 (by decide)), if_neg (show ¬ u = 2 by rintro rfl; exact absurd c2 (by decide)), if_neg (show ¬ u = 3 by rintro rfl; exact absurd c2 (by decide)), if_neg (show ¬ u = 4 by rintro rfl; exact absurd c2 (by decide)), if_neg (show ¬ u = 5 by rintro rfl; exact absurd c2 (by decide))]
      exact Ok.no (T := T) h hI hT (by simp) rfl
    · rw [if_neg c2]
      dsimp only
      obtain ⟨j, hj, rfl⟩ := in_u (N := 5) (by decide) c2
      have hj2 : j = 0 ∨ j = 1 ∨ j = 2 ∨ j = 3 ∨ j = 4 ∨ j = 5 := by omega
      rcases hj2 with rfl | rfl | rfl | rfl | rfl | rfl
      · rw [if_pos (show nI 0 = 0 by decide)]
        exact Ok.rd h hI hT (h.ba hI a3 (k := 0) (by decide))
      · rw [if_neg (show ¬ nI 1 = 0 by decide), if_pos (show nI 1 = 1 by decide)]
        exact Ok.rd h hI hT (h.ba hI a3 (k := 1) (by decide))
      · rw [if_neg (show ¬ nI 2 = 0 by decide), if_neg (show ¬ nI 2 = 1 by decide), if_pos (show nI 2 = 2 by decide)]
        exact Ok.rd h hI hT (h.ba hI a3 (k := 2) (by decide))
      · rw [if_neg (show ¬ nI 3 = 0 by decide), if_neg (show ¬ nI 3 = 1 by decide), if_neg (show ¬ nI 3 = 2 by decide), if_pos (show nI 3 = 3 by decide)]
        exact Ok.rd h hI hT (h.ba hI a3 (k := 3) (by decide))
      · rw [if_neg (show ¬ nI 4 = 0 by decide), if_neg (show ¬ nI 4 = 1 by decide), if_neg (show ¬ nI 4 = 2 by decide), if_neg (show ¬ nI 4 = 3 by decide), if_pos (show nI 4 = 4 by decide)]
        exact Ok.rd h hI hT (h.ba hI a3 (k := 4) (by decide))
      · rw [if_neg (show ¬ nI 5 = 0 by decide), if_neg (show ¬ nI 5 = 1 by decide), if_neg (show ¬ nI 5 = 2 by decide), if_neg (show ¬ nI 5 = 3 by decide), if_neg (show ¬ nI 5 = 4 by decide), if_pos (show nI 5 = 5 by decide)]
        have q := (hI.2.2.2.1 _ a3).2.2.2
        have e : m (200 + x.toNatClampNeg) (nI 5).toNatClampNeg = m (200 + x.toNatClampNeg) 5 := rfl
        rw [h.ba hI a3 (k := 5) (by decide)]
        rcases q with q | q
        · rw [if_pos q]; exact Ok.rd h hI hT (by rw [e, q])
        · rw [if_neg (by rw [q]; decide)]; exact Ok.rd h hI hT (by rw [e, q])
  · rw [if_neg (by rw [a1]; decide), if_pos (a2 _), a1]; exact Ok.no (T := T) h hI hT (by simp) rfl
theorem P_ofTank (h : Rl na nb nc nd g m) (hI : Iv na nb nc nd m) (hT : Tr g) (x u : Int32) : Ok na nb nc nd (k12 (fX6_ofTank g x u).1) (fX6_ofTank g x u).1 (fX6_ofTank g x u).2 g (fX7_ofTank na nb nc nd T m x u).1 (fX7_ofTank na nb nc nd T m x u).2 := by
  unfold fX6_ofTank fX7_ofTank
  rcases tank_is (g := g) x with ⟨a1, a2, a3, a4⟩ | ⟨a1, a2⟩
  · rw [if_pos a1, if_neg a2]
    by_cases c2 : fX7_is u 0 4 = 0
    · rw [if_pos c2, if_neg (show ¬ u = 0 by rintro rfl; exact absurd c2 (by decide)), if_neg (show ¬ u = 1 by rintro rfl; exact absurd c2 (by decide)), if_neg (show ¬ u = 2 by rintro rfl; exact absurd c2 (by decide)), if_neg (show ¬ u = 3 by rintro rfl; exact absurd c2 (by decide)), if_neg (show ¬ u = 4 by rintro rfl; exact absurd c2 (by decide))]
      exact Ok.no (T := T) h hI hT (by simp) rfl
    · rw [if_neg c2]
      dsimp only
      obtain ⟨j, hj, rfl⟩ := in_u (N := 4) (by decide) c2
      have hj2 : j = 0 ∨ j = 1 ∨ j = 2 ∨ j = 3 ∨ j = 4 := by omega
      rcases hj2 with rfl | rfl | rfl | rfl | rfl
      · rw [if_pos (show nI 0 = 0 by decide)]
        have e : fX7_ofTankNow na nb nc nd T (u2 m 0 20 0) x (nI 0) = m (300 + x.toNatClampNeg) 0 := (if_neg (show ¬ (4 : Int32) ≤ nI 0 by decide)).trans (u2_nr (by omega))
        exact Ok.rd h hI hT ((h.t3 a3 (k := 0) (by decide)).trans e.symm)
      · rw [if_neg (show ¬ nI 1 = 0 by decide), if_pos (show nI 1 = 1 by decide)]
        have e : fX7_ofTankNow na nb nc nd T (u2 m 0 20 0) x (nI 1) = m (300 + x.toNatClampNeg) 1 := (if_neg (show ¬ (4 : Int32) ≤ nI 1 by decide)).trans (u2_nr (by omega))
        exact Ok.rd h hI hT ((h.t3 a3 (k := 1) (by decide)).trans e.symm)
      · rw [if_neg (show ¬ nI 2 = 0 by decide), if_neg (show ¬ nI 2 = 1 by decide), if_pos (show nI 2 = 2 by decide)]
        have e : fX7_ofTankNow na nb nc nd T (u2 m 0 20 0) x (nI 2) = m (300 + x.toNatClampNeg) 2 := (if_neg (show ¬ (4 : Int32) ≤ nI 2 by decide)).trans (u2_nr (by omega))
        exact Ok.rd h hI hT ((h.t3 a3 (k := 2) (by decide)).trans e.symm)
      · rw [if_neg (show ¬ nI 3 = 0 by decide), if_neg (show ¬ nI 3 = 1 by decide), if_neg (show ¬ nI 3 = 2 by decide), if_pos (show nI 3 = 3 by decide)]
        have e : fX7_ofTankNow na nb nc nd T (u2 m 0 20 0) x (nI 3) = m (300 + x.toNatClampNeg) 3 := (if_neg (show ¬ (4 : Int32) ≤ nI 3 by decide)).trans (u2_nr (by omega))
        exact Ok.rd h hI hT ((h.t3 a3 (k := 3) (by decide)).trans e.symm)
      · rw [if_neg (show ¬ nI 4 = 0 by decide), if_neg (show ¬ nI 4 = 1 by decide), if_neg (show ¬ nI 4 = 2 by decide), if_neg (show ¬ nI 4 = 3 by decide), if_pos (show nI 4 = 4 by decide)]
        have e : fX7_ofTankNow na nb nc nd T (u2 m 0 20 0) x (nI 4) = fX7_sum na nb nc nd T (u2 m 0 20 0) (300 + x.toNatClampNeg) 17 := if_pos (by decide)
        exact Ok.rd h hI hT ((cert_eq (T := T) (fun k hk => (h.th (v := 0)).tr a3 hk)).trans e.symm)
  · rw [if_neg (by rw [a1]; decide), if_pos a2, a1]; exact Ok.no (T := T) h hI hT (by simp) rfl
theorem P_ofFarm (h : Rl na nb nc nd g m) (hI : Iv na nb nc nd m) (hT : Tr g) (x u : Int32) : Ok na nb nc nd (k12 (fX6_ofFarm g x u).1) (fX6_ofFarm g x u).1 (fX6_ofFarm g x u).2 g (fX7_ofFarm na nb nc nd T m x u).1 (fX7_ofFarm na nb nc nd T m x u).2 := by
  unfold fX6_ofFarm fX7_ofFarm
  rcases farm_is (T := T) h hI x with ⟨a1, a2, a3, a4⟩ | ⟨a1, a2⟩
  · rw [if_pos a1, if_neg (a2 _)]
    by_cases c2 : fX7_is u 0 4 = 0
    · rw [if_pos c2, if_neg (show ¬ u = 0 by rintro rfl; exact absurd c2 (by decide)), if_neg (show ¬ u = 1 by rintro rfl; exact absurd c2 (by decide)), if_neg (show ¬ u = 2 by rintro rfl; exact absurd c2 (by decide)), if_neg (show ¬ u = 3 by rintro rfl; exact absurd c2 (by decide)), if_neg (show ¬ u = 4 by rintro rfl; exact absurd c2 (by decide))]
      exact Ok.no (T := T) h hI hT (by simp) rfl
    · rw [if_neg c2]
      dsimp only
      obtain ⟨j, hj, rfl⟩ := in_u (N := 4) (by decide) c2
      have hj2 : j = 0 ∨ j = 1 ∨ j = 2 ∨ j = 3 ∨ j = 4 := by omega
      rcases hj2 with rfl | rfl | rfl | rfl | rfl
      · rw [if_pos (show nI 0 = 0 by decide)]
        have e : fX7_ofFarmNow na nb nc nd T (u2 m 0 20 0) x (nI 0) = m (100 + x.toNatClampNeg) 0 := (if_neg (show ¬ (4 : Int32) ≤ nI 0 by decide)).trans (u2_nr (by omega))
        exact Ok.rd h hI hT ((h.fa hI a3 (k := 0) (by decide)).trans e.symm)
      · rw [if_neg (show ¬ nI 1 = 0 by decide), if_pos (show nI 1 = 1 by decide)]
        have e : fX7_ofFarmNow na nb nc nd T (u2 m 0 20 0) x (nI 1) = m (100 + x.toNatClampNeg) 1 := (if_neg (show ¬ (4 : Int32) ≤ nI 1 by decide)).trans (u2_nr (by omega))
        exact Ok.rd h hI hT ((h.fa hI a3 (k := 1) (by decide)).trans e.symm)
      · rw [if_neg (show ¬ nI 2 = 0 by decide), if_neg (show ¬ nI 2 = 1 by decide), if_pos (show nI 2 = 2 by decide)]
        have e : fX7_ofFarmNow na nb nc nd T (u2 m 0 20 0) x (nI 2) = m (100 + x.toNatClampNeg) 2 := (if_neg (show ¬ (4 : Int32) ≤ nI 2 by decide)).trans (u2_nr (by omega))
        exact Ok.rd h hI hT ((h.fa hI a3 (k := 2) (by decide)).trans e.symm)
      · rw [if_neg (show ¬ nI 3 = 0 by decide), if_neg (show ¬ nI 3 = 1 by decide), if_neg (show ¬ nI 3 = 2 by decide), if_pos (show nI 3 = 3 by decide)]
        have e : fX7_ofFarmNow na nb nc nd T (u2 m 0 20 0) x (nI 3) = m (100 + x.toNatClampNeg) 3 := (if_neg (show ¬ (4 : Int32) ≤ nI 3 by decide)).trans (u2_nr (by omega))
        exact Ok.rd h hI hT ((h.fa hI a3 (k := 3) (by decide)).trans e.symm)
      · rw [if_neg (show ¬ nI 4 = 0 by decide), if_neg (show ¬ nI 4 = 1 by decide), if_neg (show ¬ nI 4 = 2 by decide), if_neg (show ¬ nI 4 = 3 by decide), if_pos (show nI 4 = 4 by decide)]
        have e : fX7_ofFarmNow na nb nc nd T (u2 m 0 20 0) x (nI 4) = fX7_ofFarmNow_L30 na nb nc nd T (u2 m 0 20 0) x (nI 4) nd 0 0 := if_pos (by decide)
        have z := hI.1
        exact Ok.rd h hI hT ((store_loop (T := T) (u := nI 4) (h.th (v := 0)) (hI.th (v := 0)) (x := x) (by omega) nd 13 0 0 (by omega) (by omega)).trans e.symm)
  · rw [if_neg (by rw [a1]; decide), if_pos (a2 _), a1]; exact Ok.no (T := T) h hI hT (by simp) rfl
theorem P_ofBed (h : Rl na nb nc nd g m) (hI : Iv na nb nc nd m) (hT : Tr g) (x u : Int32) : Ok na nb nc nd (k12 (fX6_ofBed g x u).1) (fX6_ofBed g x u).1 (fX6_ofBed g x u).2 g (fX7_ofBed na nb nc nd T m x u).1 (fX7_ofBed na nb nc nd T m x u).2 := by
  unfold fX6_ofBed fX7_ofBed
  rcases bed_is (T := T) h hI x with ⟨a1, a2, a3, a4⟩ | ⟨a1, a2⟩
  · rw [if_pos a1, if_neg (a2 _)]
    by_cases c2 : fX7_is u 0 7 = 0
    · rw [if_pos c2, if_neg (show ¬ u = 0 by rintro rfl; exact absurd c2 (by decide)), if_neg (show ¬ u = 1 by rintro rfl; exact absurd c2 (by decide)), if_neg (show ¬ u = 2 by rintro rfl; exact absurd c2 (by decide)), if_neg (show ¬ u = 3 by rintro rfl; exact absurd c2 (by decide)), if_neg (show ¬ u = 4 by rintro rfl; exact absurd c2 (by decide)), if_neg (show ¬ u = 5 by rintro rfl; exact absurd c2 (by decide)), if_neg (show ¬ u = 6 by rintro rfl; exact absurd c2 (by decide)), if_neg (show ¬ u = 7 by rintro rfl; exact absurd c2 (by decide))]
      exact Ok.no (T := T) h hI hT (by simp) rfl
    · rw [if_neg c2]
      dsimp only
      obtain ⟨j, hj, rfl⟩ := in_u (N := 7) (by decide) c2
      have hj2 : j = 0 ∨ j = 1 ∨ j = 2 ∨ j = 3 ∨ j = 4 ∨ j = 5 ∨ j = 6 ∨ j = 7 := by omega
      rcases hj2 with rfl | rfl | rfl | rfl | rfl | rfl | rfl | rfl
      · rw [if_pos (show nI 0 = 0 by decide)]
        have e : fX7_ofBedNow na nb nc nd T (u2 m 0 20 0) x (nI 0) = u2 m 0 20 0 (303 + x.toNatClampNeg) 8 := (u2_nk (by decide)).trans ((u2_nk (by decide)).trans ((u2_nk (by decide)).trans ((u2_nk (by decide)).trans ((u2_nk (by decide)).trans ((u2_nk (by decide)).trans ((u2_nk (by decide)).trans (u2_eq _ _ _ _)))))))
        have e2 : u2 m 0 20 0 (303 + x.toNatClampNeg) 8 = m (303 + x.toNatClampNeg) 8 := u2_nr (by omega)
        exact Ok.rd h hI hT ((h.b3 hI a3 (k := 8) (by decide)).trans (e.trans e2).symm)
      · rw [if_neg (show ¬ nI 1 = 0 by decide), if_pos (show nI 1 = 1 by decide)]
        have e : fX7_ofBedNow na nb nc nd T (u2 m 0 20 0) x (nI 1) = u2 m 0 20 0 (303 + x.toNatClampNeg) 9 := (u2_nk (by decide)).trans ((u2_nk (by decide)).trans ((u2_nk (by decide)).trans ((u2_nk (by decide)).trans ((u2_nk (by decide)).trans ((u2_nk (by decide)).trans (u2_eq _ _ _ _))))))
        have e2 : u2 m 0 20 0 (303 + x.toNatClampNeg) 9 = m (303 + x.toNatClampNeg) 9 := u2_nr (by omega)
        rw [h.b3 hI a3 (k := 9) (by decide)]
        rcases (hI.2.2.2.2.2.1 _ a3).2.2.2.2.2.1 with q | q
        · rw [if_pos q]; exact Ok.rd h hI hT (by rw [e, e2, q])
        · rw [if_neg (by rw [q]; decide)]; exact Ok.rd h hI hT (by rw [e, e2, q])
      · rw [if_neg (show ¬ nI 2 = 0 by decide), if_neg (show ¬ nI 2 = 1 by decide), if_pos (show nI 2 = 2 by decide)]
        have e : fX7_ofBedNow na nb nc nd T (u2 m 0 20 0) x (nI 2) = u2 m 0 20 0 (303 + x.toNatClampNeg) 0 := (u2_nk (by decide)).trans ((u2_nk (by decide)).trans ((u2_nk (by decide)).trans ((u2_nk (by decide)).trans ((u2_nk (by decide)).trans (u2_eq _ _ _ _)))))
        have e2 : u2 m 0 20 0 (303 + x.toNatClampNeg) 0 = m (303 + x.toNatClampNeg) 0 := u2_nr (by omega)
        exact Ok.rd h hI hT ((h.b3 hI a3 (k := 0) (by decide)).trans (e.trans e2).symm)
      · rw [if_neg (show ¬ nI 3 = 0 by decide), if_neg (show ¬ nI 3 = 1 by decide), if_neg (show ¬ nI 3 = 2 by decide), if_pos (show nI 3 = 3 by decide)]
        have e : fX7_ofBedNow na nb nc nd T (u2 m 0 20 0) x (nI 3) = u2 m 0 20 0 (303 + x.toNatClampNeg) 4 := (u2_nk (by decide)).trans ((u2_nk (by decide)).trans ((u2_nk (by decide)).trans ((u2_nk (by decide)).trans (u2_eq _ _ _ _))))
        have e2 : u2 m 0 20 0 (303 + x.toNatClampNeg) 4 = m (303 + x.toNatClampNeg) 4 := u2_nr (by omega)
        exact Ok.rd h hI hT ((h.b3 hI a3 (k := 4) (by decide)).trans (e.trans e2).symm)
      · rw [if_neg (show ¬ nI 4 = 0 by decide), if_neg (show ¬ nI 4 = 1 by decide), if_neg (show ¬ nI 4 = 2 by decide), if_neg (show ¬ nI 4 = 3 by decide), if_pos (show nI 4 = 4 by decide)]
        have e : fX7_ofBedNow na nb nc nd T (u2 m 0 20 0) x (nI 4) = u2 m 0 20 0 (303 + x.toNatClampNeg) 5 := (u2_nk (by decide)).trans ((u2_nk (by decide)).trans ((u2_nk (by decide)).trans (u2_eq _ _ _ _)))
        have e2 : u2 m 0 20 0 (303 + x.toNatClampNeg) 5 = m (303 + x.toNatClampNeg) 5 := u2_nr (by omega)
        exact Ok.rd h hI hT ((h.b3 hI a3 (k := 5) (by decide)).trans (e.trans e2).symm)
      · rw [if_neg (show ¬ nI 5 = 0 by decide), if_neg (show ¬ nI 5 = 1 by decide), if_neg (show ¬ nI 5 = 2 by decide), if_neg (show ¬ nI 5 = 3 by decide), if_neg (show ¬ nI 5 = 4 by decide), if_pos (show nI 5 = 5 by decide)]
        have e : fX7_ofBedNow na nb nc nd T (u2 m 0 20 0) x (nI 5) = u2 m 0 20 0 (303 + x.toNatClampNeg) 6 := (u2_nk (by decide)).trans ((u2_nk (by decide)).trans (u2_eq _ _ _ _))
        have e2 : u2 m 0 20 0 (303 + x.toNatClampNeg) 6 = m (303 + x.toNatClampNeg) 6 := u2_nr (by omega)
        exact Ok.rd h hI hT ((h.b3 hI a3 (k := 6) (by decide)).trans (e.trans e2).symm)
      · rw [if_neg (show ¬ nI 6 = 0 by decide), if_neg (show ¬ nI 6 = 1 by decide), if_neg (show ¬ nI 6 = 2 by decide), if_neg (show ¬ nI 6 = 3 by decide), if_neg (show ¬ nI 6 = 4 by decide), if_neg (show ¬ nI 6 = 5 by decide), if_pos (show nI 6 = 6 by decide)]
        have e : fX7_ofBedNow na nb nc nd T (u2 m 0 20 0) x (nI 6) = u2 m 0 20 0 (303 + x.toNatClampNeg) 7 := (u2_nk (by decide)).trans (u2_eq _ _ _ _)
        have e2 : u2 m 0 20 0 (303 + x.toNatClampNeg) 7 = m (303 + x.toNatClampNeg) 7 := u2_nr (by omega)
        exact Ok.rd h hI hT ((h.b3 hI a3 (k := 7) (by decide)).trans (e.trans e2).symm)
      · rw [if_neg (show ¬ nI 7 = 0 by decide), if_neg (show ¬ nI 7 = 1 by decide), if_neg (show ¬ nI 7 = 2 by decide), if_neg (show ¬ nI 7 = 3 by decide), if_neg (show ¬ nI 7 = 4 by decide), if_neg (show ¬ nI 7 = 5 by decide), if_neg (show ¬ nI 7 = 6 by decide), if_pos (show nI 7 = 7 by decide)]
        have e : fX7_ofBedNow na nb nc nd T (u2 m 0 20 0) x (nI 7) = u2 m 0 20 0 (303 + x.toNatClampNeg) 3 := u2_eq _ _ _ _
        have e2 : u2 m 0 20 0 (303 + x.toNatClampNeg) 3 = m (303 + x.toNatClampNeg) 3 := u2_nr (by omega)
        exact Ok.rd h hI hT ((h.b3 hI a3 (k := 3) (by decide)).trans (e.trans e2).symm)
  · rw [if_neg (by rw [a1]; decide), if_pos (a2 _), a1]; exact Ok.no (T := T) h hI hT (by simp) rfl
theorem gradeOf_cg {x : Int32} {T2 : Nat} (e : ∀ r k, r < 400 → m2 r k = m r k) (hx : x.toNatClampNeg < 12) : fX7_gradeOf na nb nc nd T2 m2 x = fX7_gradeOf na nb nc nd T m x := by
  unfold fX7_gradeOf
  rw [e _ 0 (by omega), e _ 1 (by omega), e _ 2 (by omega)]
theorem sum_cg {r : Nat} {T2 : Nat} (e : ∀ r k, r < 400 → m2 r k = m r k) (hx : r < 400) : fX7_sum na nb nc nd T2 m2 r 17 = fX7_sum na nb nc nd T m r 17 := by
  unfold fX7_sum
  simp only [e _ _ hx]
theorem fault_cg {r : Nat} {T2 : Nat} {x : Int32} (e : ∀ r k, r < 400 → m2 r k = m r k) (hx : r < 400) : fX7_fault na nb nc nd T2 m2 r x = fX7_fault na nb nc nd T m r x := by
  unfold fX7_fault
  simp only [e _ _ hx]
theorem heightL_cg {r : Nat} {T2 : Nat} (e : ∀ r k, r < 400 → m2 r k = m r k) (hx : r < 400) (hna : na ≤ 6) : ∀ (n k : Nat) (a : Int32), k + n = na → fX7_scoreOf_L12 na nb nc nd T2 m2 r n k a = fX7_scoreOf_L12 na nb nc nd T m r n k a := by
  intro n
  induction n with
  | zero => intro k a _; rfl
  | succ n ih =>
    intro k a hk
    rw [fX7_scoreOf_L12, fX7_scoreOf_L12, e _ _ hx, e _ _ (show 100 + k < 400 by omega)]
    exact ih (k + 1) _ (by omega)
theorem scoreOf_cg {r : Nat} {T2 : Nat} (e : ∀ r k, r < 400 → m2 r k = m r k) (hx : r < 400) (hna : na ≤ 6) : fX7_scoreOf na nb nc nd T2 m2 r = fX7_scoreOf na nb nc nd T m r := by
  unfold fX7_scoreOf
  rw [heightL_cg (T := T) e hx hna na 0 0 (by omega)]
  simp only [e _ _ hx, fault_cg (na := na) (nb := nb) (nc := nc) (nd := nd) (T := T) (T2 := T2) e hx]
theorem causeOf_cg {r : Nat} {T2 : Nat} (e : ∀ r k, r < 400 → m2 r k = m r k) (hx : r < 400) : fX7_causeOf na nb nc nd T2 m2 r = fX7_causeOf na nb nc nd T m r := by
  unfold fX7_causeOf
  simp only [e _ _ hx, fault_cg (na := na) (nb := nb) (nc := nc) (nd := nd) (T := T) (T2 := T2) e hx]
/-- rows made don't touch what is held -/
def Lo (m2 m : Md) : Prop := ∀ r k, r < 400 → m2 r k = m r k
theorem Lo.rr {m2 m : Md} (h : Lo m2 m) {q : Nat} {f : Nat → Int32} : Lo (rz m2 (400 + q) f) m := fun r k hr => (rz_nr (by omega)).trans (h r k hr)
theorem Lo.uu {m2 m : Md} (h : Lo m2 m) {q c : Nat} {v : Int32} : Lo (u2 m2 (400 + q) c v) m := fun r k hr => (u2_nr (by omega)).trans (h r k hr)
theorem Rl.hf (h : Rl na nb nc nd g m) : ∀ f, f < 6 → g 1 f 0 = if f < na then m (100 + f) 0 else 0 := fun f hf => by rw [h.2.2.1 f hf 0 (by decide), if_neg (show ¬ (0 : Nat) = 1 by decide)]

theorem P_ofLot (h : Rl na nb nc nd g m) (hI : Iv na nb nc nd m) (hT : Tr g) (x u : Int32) : Ok na nb nc nd (k12 (fX6_ofLot g x u).1) (fX6_ofLot g x u).1 (fX6_ofLot g x u).2 g (fX7_ofLot na nb nc nd T m x u).1 (fX7_ofLot na nb nc nd T m x u).2 := by
  unfold fX6_ofLot fX7_ofLot
  rcases lot_is (T := T) h hI x with ⟨a1, a2, a3, a4⟩ | ⟨a1, a2⟩
  · rw [if_pos a1, if_neg (a2 _)]
    by_cases c2 : fX7_is u 0 11 = 0
    · rw [if_pos c2, if_neg (show ¬ u = 0 by rintro rfl; exact absurd c2 (by decide)), if_neg (show ¬ u = 1 by rintro rfl; exact absurd c2 (by decide)), if_neg (show ¬ u = 2 by rintro rfl; exact absurd c2 (by decide)), if_neg (show ¬ u = 3 by rintro rfl; exact absurd c2 (by decide)), if_neg (show ¬ u = 4 by rintro rfl; exact absurd c2 (by decide)), if_neg (show ¬ u = 5 by rintro rfl; exact absurd c2 (by decide)), if_neg (show ¬ u = 6 by rintro rfl; exact absurd c2 (by decide)), if_neg (show ¬ u = 7 by rintro rfl; exact absurd c2 (by decide)), if_neg (show ¬ u = 8 by rintro rfl; exact absurd c2 (by decide)), if_neg (show ¬ u = 9 by rintro rfl; exact absurd c2 (by decide)), if_neg (show ¬ u = 10 by rintro rfl; exact absurd c2 (by decide)), if_neg (show ¬ u = 11 by rintro rfl; exact absurd c2 (by decide))]
      exact Ok.no (T := T) h hI hT (by simp) rfl
    · rw [if_neg c2]
      dsimp only
      obtain ⟨j, hj, rfl⟩ := in_u (N := 11) (by decide) c2
      have hj2 : j = 0 ∨ j = 1 ∨ j = 2 ∨ j = 3 ∨ j = 4 ∨ j = 5 ∨ j = 6 ∨ j = 7 ∨ j = 8 ∨ j = 9 ∨ j = 10 ∨ j = 11 := by omega
      rcases hj2 with rfl | rfl | rfl | rfl | rfl | rfl | rfl | rfl | rfl | rfl | rfl | rfl
      · rw [if_pos (show nI 0 = 0 by decide)]
        have e : fX7_ofLotNow na nb nc nd T (u2 m 0 20 0) x (nI 0) = u2 m 0 20 0 (308 + x.toNatClampNeg) 0 := (u2_nk (by decide)).trans ((u2_nk (by decide)).trans ((u2_nk (by decide)).trans ((u2_nk (by decide)).trans ((u2_nk (by decide)).trans ((u2_nk (by decide)).trans ((u2_nk (by decide)).trans ((u2_nk (by decide)).trans ((u2_nk (by decide)).trans ((u2_nk (by decide)).trans ((u2_nk (by decide)).trans (u2_eq _ _ _ _)))))))))))
        have e2 : u2 m 0 20 0 (308 + x.toNatClampNeg) 0 = m (308 + x.toNatClampNeg) 0 := u2_nr (by omega)
        exact Ok.rd h hI hT ((h.l3 hI a3 (k := 0) (by decide)).trans (e.trans e2).symm)
      · rw [if_neg (show ¬ nI 1 = 0 by decide), if_pos (show nI 1 = 1 by decide)]
        have e : fX7_ofLotNow na nb nc nd T (u2 m 0 20 0) x (nI 1) = u2 m 0 20 0 (308 + x.toNatClampNeg) 4 := (u2_nk (by decide)).trans ((u2_nk (by decide)).trans ((u2_nk (by decide)).trans ((u2_nk (by decide)).trans ((u2_nk (by decide)).trans ((u2_nk (by decide)).trans ((u2_nk (by decide)).trans ((u2_nk (by decide)).trans ((u2_nk (by decide)).trans ((u2_nk (by decide)).trans (u2_eq _ _ _ _))))))))))
        have e2 : u2 m 0 20 0 (308 + x.toNatClampNeg) 4 = m (308 + x.toNatClampNeg) 4 := u2_nr (by omega)
        exact Ok.rd h hI hT ((h.l3 hI a3 (k := 4) (by decide)).trans (e.trans e2).symm)
      · rw [if_neg (show ¬ nI 2 = 0 by decide), if_neg (show ¬ nI 2 = 1 by decide), if_pos (show nI 2 = 2 by decide)]
        have e : fX7_ofLotNow na nb nc nd T (u2 m 0 20 0) x (nI 2) = u2 m 0 20 0 (308 + x.toNatClampNeg) 10 := (u2_nk (by decide)).trans ((u2_nk (by decide)).trans ((u2_nk (by decide)).trans ((u2_nk (by decide)).trans ((u2_nk (by decide)).trans ((u2_nk (by decide)).trans ((u2_nk (by decide)).trans ((u2_nk (by decide)).trans ((u2_nk (by decide)).trans (u2_eq _ _ _ _)))))))))
        have e2 : u2 m 0 20 0 (308 + x.toNatClampNeg) 10 = m (308 + x.toNatClampNeg) 10 := u2_nr (by omega)
        rw [h.l3 hI a3 (k := 10) (by decide)]
        rcases (hI.2.2.2.2.2.2.1 _ a3).2.2.2.2.2.1 with q | q
        · rw [if_pos q]; exact Ok.rd h hI hT (by rw [e, e2, q])
        · rw [if_neg (by rw [q]; decide)]; exact Ok.rd h hI hT (by rw [e, e2, q])
      · rw [if_neg (show ¬ nI 3 = 0 by decide), if_neg (show ¬ nI 3 = 1 by decide), if_neg (show ¬ nI 3 = 2 by decide), if_pos (show nI 3 = 3 by decide)]
        have z := hI.1
        have hlt : 308 + x.toNatClampNeg < 400 := by omega
        have e : fX7_ofLotNow na nb nc nd T (u2 m 0 20 0) x (nI 3) = fX7_sum na nb nc nd T (u2 m 0 20 0) (308 + x.toNatClampNeg) 17 := (u2_nk (by decide)).trans ((u2_nk (by decide)).trans ((u2_nk (by decide)).trans ((u2_nk (by decide)).trans ((u2_nk (by decide)).trans ((u2_nk (by decide)).trans ((u2_nk (by decide)).trans ((u2_nk (by decide)).trans ((u2_eq _ _ _ _).trans (sum_cg (Lo.uu (Lo.uu (Lo.uu (Lo.rr (fun _ _ _ => rfl))))) hlt)))))))))
        exact Ok.rd h hI hT ((cert_eq (T := T) (fun k hk => (h.th (v := 0)).lr hI.th a3 hk)).trans e.symm)
      · rw [if_neg (show ¬ nI 4 = 0 by decide), if_neg (show ¬ nI 4 = 1 by decide), if_neg (show ¬ nI 4 = 2 by decide), if_neg (show ¬ nI 4 = 3 by decide), if_pos (show nI 4 = 4 by decide)]
        have e : fX7_ofLotNow na nb nc nd T (u2 m 0 20 0) x (nI 4) = u2 m 0 20 0 (308 + x.toNatClampNeg) 1 := (u2_nk (by decide)).trans ((u2_nk (by decide)).trans ((u2_nk (by decide)).trans ((u2_nk (by decide)).trans ((u2_nk (by decide)).trans ((u2_nk (by decide)).trans ((u2_nk (by decide)).trans (u2_eq _ _ _ _)))))))
        have e2 : u2 m 0 20 0 (308 + x.toNatClampNeg) 1 = m (308 + x.toNatClampNeg) 1 := u2_nr (by omega)
        exact Ok.rd h hI hT ((h.l3 hI a3 (k := 1) (by decide)).trans (e.trans e2).symm)
      · rw [if_neg (show ¬ nI 5 = 0 by decide), if_neg (show ¬ nI 5 = 1 by decide), if_neg (show ¬ nI 5 = 2 by decide), if_neg (show ¬ nI 5 = 3 by decide), if_neg (show ¬ nI 5 = 4 by decide), if_pos (show nI 5 = 5 by decide)]
        have e : fX7_ofLotNow na nb nc nd T (u2 m 0 20 0) x (nI 5) = u2 m 0 20 0 (308 + x.toNatClampNeg) 3 := (u2_nk (by decide)).trans ((u2_nk (by decide)).trans ((u2_nk (by decide)).trans ((u2_nk (by decide)).trans ((u2_nk (by decide)).trans ((u2_nk (by decide)).trans (u2_eq _ _ _ _))))))
        have e2 : u2 m 0 20 0 (308 + x.toNatClampNeg) 3 = m (308 + x.toNatClampNeg) 3 := u2_nr (by omega)
        exact Ok.rd h hI hT ((h.l3 hI a3 (k := 3) (by decide)).trans (e.trans e2).symm)
      · rw [if_neg (show ¬ nI 6 = 0 by decide), if_neg (show ¬ nI 6 = 1 by decide), if_neg (show ¬ nI 6 = 2 by decide), if_neg (show ¬ nI 6 = 3 by decide), if_neg (show ¬ nI 6 = 4 by decide), if_neg (show ¬ nI 6 = 5 by decide), if_pos (show nI 6 = 6 by decide)]
        have e : fX7_ofLotNow na nb nc nd T (u2 m 0 20 0) x (nI 6) = u2 m 0 20 0 (308 + x.toNatClampNeg) 7 := (u2_nk (by decide)).trans ((u2_nk (by decide)).trans ((u2_nk (by decide)).trans ((u2_nk (by decide)).trans ((u2_nk (by decide)).trans (u2_eq _ _ _ _)))))
        have e2 : u2 m 0 20 0 (308 + x.toNatClampNeg) 7 = m (308 + x.toNatClampNeg) 7 := u2_nr (by omega)
        exact Ok.rd h hI hT ((h.l3 hI a3 (k := 7) (by decide)).trans (e.trans e2).symm)
      · rw [if_neg (show ¬ nI 7 = 0 by decide), if_neg (show ¬ nI 7 = 1 by decide), if_neg (show ¬ nI 7 = 2 by decide), if_neg (show ¬ nI 7 = 3 by decide), if_neg (show ¬ nI 7 = 4 by decide), if_neg (show ¬ nI 7 = 5 by decide), if_neg (show ¬ nI 7 = 6 by decide), if_pos (show nI 7 = 7 by decide)]
        have e : fX7_ofLotNow na nb nc nd T (u2 m 0 20 0) x (nI 7) = u2 m 0 20 0 (308 + x.toNatClampNeg) 5 := (u2_nk (by decide)).trans ((u2_nk (by decide)).trans ((u2_nk (by decide)).trans ((u2_nk (by decide)).trans (u2_eq _ _ _ _))))
        have e2 : u2 m 0 20 0 (308 + x.toNatClampNeg) 5 = m (308 + x.toNatClampNeg) 5 := u2_nr (by omega)
        exact Ok.rd h hI hT ((h.l3 hI a3 (k := 5) (by decide)).trans (e.trans e2).symm)
      · rw [if_neg (show ¬ nI 8 = 0 by decide), if_neg (show ¬ nI 8 = 1 by decide), if_neg (show ¬ nI 8 = 2 by decide), if_neg (show ¬ nI 8 = 3 by decide), if_neg (show ¬ nI 8 = 4 by decide), if_neg (show ¬ nI 8 = 5 by decide), if_neg (show ¬ nI 8 = 6 by decide), if_neg (show ¬ nI 8 = 7 by decide), if_pos (show nI 8 = 8 by decide)]
        have e : fX7_ofLotNow na nb nc nd T (u2 m 0 20 0) x (nI 8) = u2 m 0 20 0 (308 + x.toNatClampNeg) 2 := (u2_nk (by decide)).trans ((u2_nk (by decide)).trans ((u2_nk (by decide)).trans (u2_eq _ _ _ _)))
        have e2 : u2 m 0 20 0 (308 + x.toNatClampNeg) 2 = m (308 + x.toNatClampNeg) 2 := u2_nr (by omega)
        exact Ok.rd h hI hT ((h.l3 hI a3 (k := 2) (by decide)).trans (e.trans e2).symm)
      · rw [if_neg (show ¬ nI 9 = 0 by decide), if_neg (show ¬ nI 9 = 1 by decide), if_neg (show ¬ nI 9 = 2 by decide), if_neg (show ¬ nI 9 = 3 by decide), if_neg (show ¬ nI 9 = 4 by decide), if_neg (show ¬ nI 9 = 5 by decide), if_neg (show ¬ nI 9 = 6 by decide), if_neg (show ¬ nI 9 = 7 by decide), if_neg (show ¬ nI 9 = 8 by decide), if_pos (show nI 9 = 9 by decide)]
        have z := hI.1
        have hlt : 308 + x.toNatClampNeg < 400 := by omega
        have e : fX7_ofLotNow na nb nc nd T (u2 m 0 20 0) x (nI 9) = fX7_gradeOf na nb nc nd T (u2 m 0 20 0) x := (u2_nk (by decide)).trans ((u2_nk (by decide)).trans ((u2_eq _ _ _ _).trans (gradeOf_cg (Lo.uu (Lo.uu (Lo.uu (Lo.uu (Lo.uu (Lo.uu (Lo.uu (Lo.uu (Lo.uu (Lo.rr (fun _ _ _ => rfl))))))))))) (by omega))))
        exact Ok.rd h hI hT ((grade_eq (T := T) (fun k hk => (h.th (v := 0)).rd hI.th a3 hk)).trans e.symm)
      · rw [if_neg (show ¬ nI 10 = 0 by decide), if_neg (show ¬ nI 10 = 1 by decide), if_neg (show ¬ nI 10 = 2 by decide), if_neg (show ¬ nI 10 = 3 by decide), if_neg (show ¬ nI 10 = 4 by decide), if_neg (show ¬ nI 10 = 5 by decide), if_neg (show ¬ nI 10 = 6 by decide), if_neg (show ¬ nI 10 = 7 by decide), if_neg (show ¬ nI 10 = 8 by decide), if_neg (show ¬ nI 10 = 9 by decide), if_pos (show nI 10 = 10 by decide)]
        have z := hI.1
        have hlt : 308 + x.toNatClampNeg < 400 := by omega
        have e : fX7_ofLotNow na nb nc nd T (u2 m 0 20 0) x (nI 10) = fX7_scoreOf na nb nc nd T (u2 m 0 20 0) (308 + x.toNatClampNeg) := (u2_nk (by decide)).trans ((u2_eq _ _ _ _).trans (scoreOf_cg (Lo.uu (Lo.uu (Lo.uu (Lo.uu (Lo.uu (Lo.uu (Lo.uu (Lo.uu (Lo.uu (Lo.uu (Lo.rr (fun _ _ _ => rfl)))))))))))) hlt z.1))
        have lI := (hI.th (v := 0)).2.2.2.2.2.2.1 _ a3
        have k0 := lI.1.k0
        have mo := lI.2.2.2.1.1
        rw [show g 3 (8 + x.toNatClampNeg) 0 = u2 m 0 20 0 (308 + x.toNatClampNeg) 0 from (h.th (v := 0)).l3 hI.th a3 (by decide)]
        rcases empty_is (x := u2 m 0 20 0 (308 + x.toNatClampNeg) 0) with ⟨b1, b2⟩ | ⟨b1, b2⟩
        · rw [if_pos b1]
          have kp : 0 < (u2 m 0 20 0 (308 + x.toNatClampNeg) 0).toInt := ne0_pos k0.1 b2
          exact Ok.rd h hI hT ((score_eq (T := T) (fun k hk => (h.th (v := 0)).lr hI.th a3 hk) (h.th (v := 0)).hf z.1 mo kp lI.2.2.1).trans e.symm)
        · rw [if_neg (by rw [b1]; decide)]
          exact Ok.rd h hI hT (by rw [e]; unfold fX7_scoreOf; rw [if_pos b2])
      · rw [if_neg (show ¬ nI 11 = 0 by decide), if_neg (show ¬ nI 11 = 1 by decide), if_neg (show ¬ nI 11 = 2 by decide), if_neg (show ¬ nI 11 = 3 by decide), if_neg (show ¬ nI 11 = 4 by decide), if_neg (show ¬ nI 11 = 5 by decide), if_neg (show ¬ nI 11 = 6 by decide), if_neg (show ¬ nI 11 = 7 by decide), if_neg (show ¬ nI 11 = 8 by decide), if_neg (show ¬ nI 11 = 9 by decide), if_neg (show ¬ nI 11 = 10 by decide), if_pos (show nI 11 = 11 by decide)]
        have z := hI.1
        have hlt : 308 + x.toNatClampNeg < 400 := by omega
        have e : fX7_ofLotNow na nb nc nd T (u2 m 0 20 0) x (nI 11) = fX7_causeOf na nb nc nd T (u2 m 0 20 0) (308 + x.toNatClampNeg) := (u2_eq _ _ _ _).trans (causeOf_cg (Lo.uu (Lo.uu (Lo.uu (Lo.uu (Lo.uu (Lo.uu (Lo.uu (Lo.uu (Lo.uu (Lo.uu (Lo.uu (Lo.rr (fun _ _ _ => rfl))))))))))))) hlt)
        have lI := (hI.th (v := 0)).2.2.2.2.2.2.1 _ a3
        have k0 := lI.1.k0
        have mo := lI.2.2.2.1.1
        rw [show g 3 (8 + x.toNatClampNeg) 0 = u2 m 0 20 0 (308 + x.toNatClampNeg) 0 from (h.th (v := 0)).l3 hI.th a3 (by decide)]
        rcases empty_is (x := u2 m 0 20 0 (308 + x.toNatClampNeg) 0) with ⟨b1, b2⟩ | ⟨b1, b2⟩
        · rw [if_pos b1]
          exact Ok.rd h hI hT ((cause_eq (T := T) (fun k hk => (h.th (v := 0)).lr hI.th a3 hk) mo b2).trans e.symm)
        · rw [if_neg (by rw [b1]; decide)]
          exact Ok.rd h hI hT (by rw [e]; unfold fX7_causeOf; rw [if_pos b2])
  · rw [if_neg (by rw [a1]; decide), if_pos (a2 _), a1]; exact Ok.no (T := T) h hI hT (by simp) rfl
theorem P_many (h : Rl na nb nc nd g m) (hI : Iv na nb nc nd m) (hT : Tr g) (u : Int32) : Ok na nb nc nd (k23 (fX6_many g u).1) (fX6_many g u).1 (fX6_many g u).2 g (fX7_many na nb nc nd T m u).1 (fX7_many na nb nc nd T m u).2 := by
  unfold fX6_many fX7_many
  have z := hI.1
  have h2 := h.th (v := 0)
  have hI2 := hI.th (v := 0)
  by_cases c2 : fX7_is u 0 15 = 0
  · rw [if_pos c2, if_neg (show ¬ u = 0 by rintro rfl; exact absurd c2 (by decide)), if_neg (show ¬ u = 1 by rintro rfl; exact absurd c2 (by decide)), if_neg (show ¬ u = 2 by rintro rfl; exact absurd c2 (by decide)), if_neg (show ¬ u = 3 by rintro rfl; exact absurd c2 (by decide)), if_neg (show ¬ u = 4 by rintro rfl; exact absurd c2 (by decide)), if_neg (show ¬ u = 5 by rintro rfl; exact absurd c2 (by decide)), if_neg (show ¬ u = 6 by rintro rfl; exact absurd c2 (by decide)), if_neg (show ¬ u = 7 by rintro rfl; exact absurd c2 (by decide)), if_neg (show ¬ u = 8 by rintro rfl; exact absurd c2 (by decide)), if_neg (show ¬ u = 9 by rintro rfl; exact absurd c2 (by decide)), if_neg (show ¬ u = 10 by rintro rfl; exact absurd c2 (by decide)), if_neg (show ¬ u = 11 by rintro rfl; exact absurd c2 (by decide)), if_neg (show ¬ u = 12 by rintro rfl; exact absurd c2 (by decide)), if_neg (show ¬ u = 13 by rintro rfl; exact absurd c2 (by decide)), if_neg (show ¬ u = 14 by rintro rfl; exact absurd c2 (by decide)), if_neg (show ¬ u = 15 by rintro rfl; exact absurd c2 (by decide))]
    exact Ok.no (T := T) h hI hT (by simp) rfl
  · rw [if_neg c2]
    dsimp only
    obtain ⟨j, hj, rfl⟩ := in_u (N := 15) (by decide) c2
    have hj2 : j = 0 ∨ j = 1 ∨ j = 2 ∨ j = 3 ∨ j = 4 ∨ j = 5 ∨ j = 6 ∨ j = 7 ∨ j = 8 ∨ j = 9 ∨ j = 10 ∨ j = 11 ∨ j = 12 ∨ j = 13 ∨ j = 14 ∨ j = 15 := by omega
    rcases hj2 with rfl | rfl | rfl | rfl | rfl | rfl | rfl | rfl | rfl | rfl | rfl | rfl | rfl | rfl | rfl | rfl
    · rw [if_pos (show nI 0 = 0 by decide)]
      exact Ok.rd h hI hT (Eq.trans (h2.s (by decide)) ((u2_nk (by decide)).trans ((u2_nk (by decide)).trans ((u2_nk (by decide)).trans ((u2_nk (by decide)).trans ((u2_nk (by decide)).trans ((u2_nk (by decide)).trans ((u2_nk (by decide)).trans ((u2_nk (by decide)).trans ((u2_nk (by decide)).trans ((u2_nk (by decide)).trans ((u2_nk (by decide)).trans ((u2_nk (by decide)).trans ((u2_nk (by decide)).trans ((u2_nk (by decide)).trans ((u2_nk (by decide)).trans (u2_eq _ _ _ _)))))))))))))))).symm)
    · rw [if_neg (show ¬ nI 1 = 0 by decide), if_pos (show nI 1 = 1 by decide)]
      exact Ok.rd h hI hT (Eq.trans (h.a) ((u2_nk (by decide)).trans ((u2_nk (by decide)).trans ((u2_nk (by decide)).trans ((u2_nk (by decide)).trans ((u2_nk (by decide)).trans ((u2_nk (by decide)).trans ((u2_nk (by decide)).trans ((u2_nk (by decide)).trans ((u2_nk (by decide)).trans ((u2_nk (by decide)).trans ((u2_nk (by decide)).trans ((u2_nk (by decide)).trans ((u2_nk (by decide)).trans ((u2_nk (by decide)).trans (u2_eq _ _ _ _))))))))))))))).symm)
    · rw [if_neg (show ¬ nI 2 = 0 by decide), if_neg (show ¬ nI 2 = 1 by decide), if_pos (show nI 2 = 2 by decide)]
      exact Ok.rd h hI hT (Eq.trans (h.b) ((u2_nk (by decide)).trans ((u2_nk (by decide)).trans ((u2_nk (by decide)).trans ((u2_nk (by decide)).trans ((u2_nk (by decide)).trans ((u2_nk (by decide)).trans ((u2_nk (by decide)).trans ((u2_nk (by decide)).trans ((u2_nk (by decide)).trans ((u2_nk (by decide)).trans ((u2_nk (by decide)).trans ((u2_nk (by decide)).trans ((u2_nk (by decide)).trans (u2_eq _ _ _ _)))))))))))))).symm)
    · rw [if_neg (show ¬ nI 3 = 0 by decide), if_neg (show ¬ nI 3 = 1 by decide), if_neg (show ¬ nI 3 = 2 by decide), if_pos (show nI 3 = 3 by decide)]
      exact Ok.rd h hI hT (Eq.trans (h.c) ((u2_nk (by decide)).trans ((u2_nk (by decide)).trans ((u2_nk (by decide)).trans ((u2_nk (by decide)).trans ((u2_nk (by decide)).trans ((u2_nk (by decide)).trans ((u2_nk (by decide)).trans ((u2_nk (by decide)).trans ((u2_nk (by decide)).trans ((u2_nk (by decide)).trans ((u2_nk (by decide)).trans ((u2_nk (by decide)).trans (u2_eq _ _ _ _))))))))))))).symm)
    · rw [if_neg (show ¬ nI 4 = 0 by decide), if_neg (show ¬ nI 4 = 1 by decide), if_neg (show ¬ nI 4 = 2 by decide), if_neg (show ¬ nI 4 = 3 by decide), if_pos (show nI 4 = 4 by decide)]
      exact Ok.rd h hI hT (Eq.trans (h.d) ((u2_nk (by decide)).trans ((u2_nk (by decide)).trans ((u2_nk (by decide)).trans ((u2_nk (by decide)).trans ((u2_nk (by decide)).trans ((u2_nk (by decide)).trans ((u2_nk (by decide)).trans ((u2_nk (by decide)).trans ((u2_nk (by decide)).trans ((u2_nk (by decide)).trans ((u2_nk (by decide)).trans (u2_eq _ _ _ _)))))))))))).symm)
    · rw [if_neg (show ¬ nI 5 = 0 by decide), if_neg (show ¬ nI 5 = 1 by decide), if_neg (show ¬ nI 5 = 2 by decide), if_neg (show ¬ nI 5 = 3 by decide), if_neg (show ¬ nI 5 = 4 by decide), if_pos (show nI 5 = 5 by decide)]
      exact Ok.rd h hI hT (Eq.trans ((inst_loop (T := T) h2 hI2 nd 13 0 0 0 (by omega) (by omega)).1) ((u2_nk (by decide)).trans ((u2_nk (by decide)).trans ((u2_nk (by decide)).trans ((u2_nk (by decide)).trans ((u2_nk (by decide)).trans ((u2_nk (by decide)).trans ((u2_nk (by decide)).trans ((u2_nk (by decide)).trans ((u2_nk (by decide)).trans ((u2_nk (by decide)).trans (u2_eq _ _ _ _))))))))))).symm)
    · rw [if_neg (show ¬ nI 6 = 0 by decide), if_neg (show ¬ nI 6 = 1 by decide), if_neg (show ¬ nI 6 = 2 by decide), if_neg (show ¬ nI 6 = 3 by decide), if_neg (show ¬ nI 6 = 4 by decide), if_neg (show ¬ nI 6 = 5 by decide), if_pos (show nI 6 = 6 by decide)]
      exact Ok.rd h hI hT (Eq.trans (h2.s (by decide)) ((u2_nk (by decide)).trans ((u2_nk (by decide)).trans ((u2_nk (by decide)).trans ((u2_nk (by decide)).trans ((u2_nk (by decide)).trans ((u2_nk (by decide)).trans ((u2_nk (by decide)).trans ((u2_nk (by decide)).trans ((u2_nk (by decide)).trans (u2_eq _ _ _ _)))))))))).symm)
    · rw [if_neg (show ¬ nI 7 = 0 by decide), if_neg (show ¬ nI 7 = 1 by decide), if_neg (show ¬ nI 7 = 2 by decide), if_neg (show ¬ nI 7 = 3 by decide), if_neg (show ¬ nI 7 = 4 by decide), if_neg (show ¬ nI 7 = 5 by decide), if_neg (show ¬ nI 7 = 6 by decide), if_pos (show nI 7 = 7 by decide)]
      exact Ok.rd h hI hT (Eq.trans (h2.s (by decide)) ((u2_nk (by decide)).trans ((u2_nk (by decide)).trans ((u2_nk (by decide)).trans ((u2_nk (by decide)).trans ((u2_nk (by decide)).trans ((u2_nk (by decide)).trans ((u2_nk (by decide)).trans ((u2_nk (by decide)).trans (u2_eq _ _ _ _))))))))).symm)
    · rw [if_neg (show ¬ nI 8 = 0 by decide), if_neg (show ¬ nI 8 = 1 by decide), if_neg (show ¬ nI 8 = 2 by decide), if_neg (show ¬ nI 8 = 3 by decide), if_neg (show ¬ nI 8 = 4 by decide), if_neg (show ¬ nI 8 = 5 by decide), if_neg (show ¬ nI 8 = 6 by decide), if_neg (show ¬ nI 8 = 7 by decide), if_pos (show nI 8 = 8 by decide)]
      exact Ok.rd h hI hT (Eq.trans (wait_loop (T := T) h2 hI2 nb 21 0 0 (by omega) (by omega)) ((u2_nk (by decide)).trans ((u2_nk (by decide)).trans ((u2_nk (by decide)).trans ((u2_nk (by decide)).trans ((u2_nk (by decide)).trans ((u2_nk (by decide)).trans ((u2_nk (by decide)).trans (u2_eq _ _ _ _)))))))).symm)
    · rw [if_neg (show ¬ nI 9 = 0 by decide), if_neg (show ¬ nI 9 = 1 by decide), if_neg (show ¬ nI 9 = 2 by decide), if_neg (show ¬ nI 9 = 3 by decide), if_neg (show ¬ nI 9 = 4 by decide), if_neg (show ¬ nI 9 = 5 by decide), if_neg (show ¬ nI 9 = 6 by decide), if_neg (show ¬ nI 9 = 7 by decide), if_neg (show ¬ nI 9 = 8 by decide), if_pos (show nI 9 = 9 by decide)]
      exact Ok.rd h hI hT (Eq.trans (by unfold fX6_kilosInTanks; rw [h2.t3 (i := 0) (k := 0) (by decide) (by decide), h2.t3 (i := 1) (k := 0) (by decide) (by decide), h2.t3 (i := 2) (k := 0) (by decide) (by decide)]) ((u2_nk (by decide)).trans ((u2_nk (by decide)).trans ((u2_nk (by decide)).trans ((u2_nk (by decide)).trans ((u2_nk (by decide)).trans ((u2_nk (by decide)).trans (u2_eq _ _ _ _))))))).symm)
    · rw [if_neg (show ¬ nI 10 = 0 by decide), if_neg (show ¬ nI 10 = 1 by decide), if_neg (show ¬ nI 10 = 2 by decide), if_neg (show ¬ nI 10 = 3 by decide), if_neg (show ¬ nI 10 = 4 by decide), if_neg (show ¬ nI 10 = 5 by decide), if_neg (show ¬ nI 10 = 6 by decide), if_neg (show ¬ nI 10 = 7 by decide), if_neg (show ¬ nI 10 = 8 by decide), if_neg (show ¬ nI 10 = 9 by decide), if_pos (show nI 10 = 10 by decide)]
      exact Ok.rd h hI hT (Eq.trans (onbeds_loop (T := T) h2 hI2 nc 6 0 0 (by omega) (by omega)) ((u2_nk (by decide)).trans ((u2_nk (by decide)).trans ((u2_nk (by decide)).trans ((u2_nk (by decide)).trans ((u2_nk (by decide)).trans (u2_eq _ _ _ _)))))).symm)
    · rw [if_neg (show ¬ nI 11 = 0 by decide), if_neg (show ¬ nI 11 = 1 by decide), if_neg (show ¬ nI 11 = 2 by decide), if_neg (show ¬ nI 11 = 3 by decide), if_neg (show ¬ nI 11 = 4 by decide), if_neg (show ¬ nI 11 = 5 by decide), if_neg (show ¬ nI 11 = 6 by decide), if_neg (show ¬ nI 11 = 7 by decide), if_neg (show ¬ nI 11 = 8 by decide), if_neg (show ¬ nI 11 = 9 by decide), if_neg (show ¬ nI 11 = 10 by decide), if_pos (show nI 11 = 11 by decide)]
      exact Ok.rd h hI hT (Eq.trans ((inst_loop (T := T) h2 hI2 nd 13 0 0 0 (by omega) (by omega)).2) ((u2_nk (by decide)).trans ((u2_nk (by decide)).trans ((u2_nk (by decide)).trans ((u2_nk (by decide)).trans (u2_eq _ _ _ _))))).symm)
    · rw [if_neg (show ¬ nI 12 = 0 by decide), if_neg (show ¬ nI 12 = 1 by decide), if_neg (show ¬ nI 12 = 2 by decide), if_neg (show ¬ nI 12 = 3 by decide), if_neg (show ¬ nI 12 = 4 by decide), if_neg (show ¬ nI 12 = 5 by decide), if_neg (show ¬ nI 12 = 6 by decide), if_neg (show ¬ nI 12 = 7 by decide), if_neg (show ¬ nI 12 = 8 by decide), if_neg (show ¬ nI 12 = 9 by decide), if_neg (show ¬ nI 12 = 10 by decide), if_neg (show ¬ nI 12 = 11 by decide), if_pos (show nI 12 = 12 by decide)]
      exact Ok.rd h hI hT (Eq.trans (h2.s (by decide)) ((u2_nk (by decide)).trans ((u2_nk (by decide)).trans ((u2_nk (by decide)).trans (u2_eq _ _ _ _)))).symm)
    · rw [if_neg (show ¬ nI 13 = 0 by decide), if_neg (show ¬ nI 13 = 1 by decide), if_neg (show ¬ nI 13 = 2 by decide), if_neg (show ¬ nI 13 = 3 by decide), if_neg (show ¬ nI 13 = 4 by decide), if_neg (show ¬ nI 13 = 5 by decide), if_neg (show ¬ nI 13 = 6 by decide), if_neg (show ¬ nI 13 = 7 by decide), if_neg (show ¬ nI 13 = 8 by decide), if_neg (show ¬ nI 13 = 9 by decide), if_neg (show ¬ nI 13 = 10 by decide), if_neg (show ¬ nI 13 = 11 by decide), if_neg (show ¬ nI 13 = 12 by decide), if_pos (show nI 13 = 13 by decide)]
      exact Ok.rd h hI hT (Eq.trans (h2.s (by decide)) ((u2_nk (by decide)).trans ((u2_nk (by decide)).trans (u2_eq _ _ _ _))).symm)
    · rw [if_neg (show ¬ nI 14 = 0 by decide), if_neg (show ¬ nI 14 = 1 by decide), if_neg (show ¬ nI 14 = 2 by decide), if_neg (show ¬ nI 14 = 3 by decide), if_neg (show ¬ nI 14 = 4 by decide), if_neg (show ¬ nI 14 = 5 by decide), if_neg (show ¬ nI 14 = 6 by decide), if_neg (show ¬ nI 14 = 7 by decide), if_neg (show ¬ nI 14 = 8 by decide), if_neg (show ¬ nI 14 = 9 by decide), if_neg (show ¬ nI 14 = 10 by decide), if_neg (show ¬ nI 14 = 11 by decide), if_neg (show ¬ nI 14 = 12 by decide), if_neg (show ¬ nI 14 = 13 by decide), if_pos (show nI 14 = 14 by decide)]
      exact Ok.rd h hI hT (Eq.trans (h2.s (by decide)) ((u2_nk (by decide)).trans (u2_eq _ _ _ _)).symm)
    · rw [if_neg (show ¬ nI 15 = 0 by decide), if_neg (show ¬ nI 15 = 1 by decide), if_neg (show ¬ nI 15 = 2 by decide), if_neg (show ¬ nI 15 = 3 by decide), if_neg (show ¬ nI 15 = 4 by decide), if_neg (show ¬ nI 15 = 5 by decide), if_neg (show ¬ nI 15 = 6 by decide), if_neg (show ¬ nI 15 = 7 by decide), if_neg (show ¬ nI 15 = 8 by decide), if_neg (show ¬ nI 15 = 9 by decide), if_neg (show ¬ nI 15 = 10 by decide), if_neg (show ¬ nI 15 = 11 by decide), if_neg (show ¬ nI 15 = 12 by decide), if_neg (show ¬ nI 15 = 13 by decide), if_neg (show ¬ nI 15 = 14 by decide), if_pos (show nI 15 = 15 by decide)]
      exact Ok.rd h hI hT (Eq.trans (coins_loop (T := T) h2 hI2 na 7 0 0 (by omega) (by omega)) (u2_eq _ _ _ _).symm)
theorem P_kilosOf (h : Rl na nb nc nd g m) (hI : Iv na nb nc nd m) (hT : Tr g) (x f : Int32) : Ok na nb nc nd (k12 (fX6_kilosOf g x f).1) (fX6_kilosOf g x f).1 (fX6_kilosOf g x f).2 g (fX7_kilosOf na nb nc nd T m x f).1 (fX7_kilosOf na nb nc nd T m x f).2 := by
  unfold fX6_kilosOf fX7_kilosOf
  have z := hI.1
  rcases lot_is (T := T) h hI x with ⟨a1, a2, a3, a4⟩ | ⟨a1, a2⟩
  · rw [if_pos a1, if_neg (a2 _)]
    rcases need_is (T := T) h hI f with ⟨b1, b2, b3, b4⟩ | ⟨b1, b2⟩
    · rw [if_pos b1, if_neg (b2 _)]
      exact Ok.rd h hI hT (h.l4 hI a3 (f := f.toNatClampNeg) (by omega))
    · rw [if_neg (by rw [b1]; decide), if_pos (b2 _), b1]; exact Ok.no (T := T) h hI hT (by simp) rfl
  · rw [if_neg (by rw [a1]; decide), if_pos (a2 _), a1]; exact Ok.no (T := T) h hI hT (by simp) rfl
end AS
