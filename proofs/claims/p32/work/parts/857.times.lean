/-! ===== hours to wait ===== -/
section TI
variable {na nb nc nd T : Nat} {g g2 : Gd} {m m2 : Md}
theorem nI_s {k : Nat} : nI (k + 1) = nI k + 1 := by
  show Int32.ofNat (k + 1) = Int32.ofNat k + 1
  exact Int32.ofNat_add k 1
theorem ready_loop {x wt q P : Int32} (hx : x.toNatClampNeg < 3) (e3 : g 3 x.toNatClampNeg 3 = P) (eq : fX5_pointsAnHour (g 3 x.toNatClampNeg 0) wt = q) (er : fX7_rises na nb nc nd T m (300 + x.toNatClampNeg) wt = q) : ∀ (n f k : Nat) (a : Int32), k + n = 201 → n < f → a = P + nI k * q → fX6_readyIn_L25 g x wt f k = (0, fX7_readyNow_L25 na nb nc nd T m x wt n k a) := by
  intro n
  induction n with
  | zero =>
    intro f k a hkn hf ha
    obtain ⟨f, rfl⟩ : ∃ f', f = f' + 1 := ⟨f - 1, by omega⟩
    obtain rfl : k = 201 := by omega
    rw [fX6_readyIn_L25, if_pos (by decide)]; rfl
  | succ n ih =>
    intro f k a hkn hf ha
    obtain ⟨f, rfl⟩ : ∃ f', f = f' + 1 := ⟨f - 1, by omega⟩
    have hk : ¬ (200 : Int32) < nI k := by
      rw [lt_ti, ti_nI (by omega)]
      have : (200 : Int32).toInt = 200 := rfl
      omega
    rw [fX6_readyIn_L25, if_neg hk, fX7_readyNow_L25, e3, eq, er, ← ha]
    by_cases c : a < 60
    · rw [if_pos c, if_pos c]
      exact ih f (k + 1) (a + q) (by omega) (by omega) (by rw [nI_s, Int32.add_mul, Int32.one_mul, ha, Int32.add_assoc])
    · rw [if_neg c, if_neg c]
theorem warm_is (x : Int32) : (fX6_needWarmth g x = 0 ∧ ¬ fX7_isWarmth x = 0) ∨ (fX6_needWarmth g x = 2 ∧ fX7_isWarmth x = 0) := by
  unfold fX6_needWarmth fX7_isWarmth
  rcases rng_is x 0 40 with ⟨b1, b2, b3, b4⟩ | ⟨b1, b2⟩ | ⟨b1, b2, b3, b4⟩
  · rw [if_neg b1, if_pos b2]; exact Or.inl ⟨rfl, b4⟩
  · rw [if_pos b1]; exact Or.inr ⟨rfl, b2⟩
  · rw [if_neg b1, if_neg b2]; exact Or.inr ⟨rfl, b4⟩
theorem P_readyIn (h : Rl na nb nc nd g m) (hI : Iv na nb nc nd m) (hT : Tr g) (x wt : Int32) : Ok na nb nc nd (k12 (fX6_readyIn g x wt).1) (fX6_readyIn g x wt).1 (fX6_readyIn g x wt).2 g (fX7_readyIn na nb nc nd T m x wt).1 (fX7_readyIn na nb nc nd T m x wt).2 := by
  unfold fX6_readyIn fX7_readyIn
  rcases tank_is (g := g) x with ⟨a1, a2, a3, a4⟩ | ⟨a1, a2⟩
  · rw [if_pos a1, if_neg a2]
    rcases warm_is (g := g) wt with ⟨b1, b2⟩ | ⟨b1, b2⟩
    · rw [if_pos b1, if_neg b2]
      have h2 := h.th (v := 0)
      have e0 := h2.t3 (i := x.toNatClampNeg) (k := 0) a3 (by decide)
      have e3 := h2.t3 (i := x.toNatClampNeg) (k := 3) a3 (by decide)
      have er : fX7_rises na nb nc nd T (u2 m 0 20 0) (300 + x.toNatClampNeg) wt = fX5_pointsAnHour (g 3 x.toNatClampNeg 0) wt := by
        unfold fX7_rises fX5_pointsAnHour
        rw [e0]
      rw [e0]
      rcases empty_is (x := u2 m 0 20 0 (300 + x.toNatClampNeg) 0) with ⟨c1, c2⟩ | ⟨c1, c2⟩
      · rw [if_pos c1]
        have L := ready_loop (T := T) (na := na) (nb := nb) (nc := nc) (nd := nd) (m := u2 m 0 20 0) a3 e3 rfl er 201 202 0 (u2 m 0 20 0 (300 + x.toNatClampNeg) 3) (by omega) (by omega) (by rw [show nI 0 = 0 from rfl, Int32.zero_mul, Int32.add_zero])
        rw [L]
        exact Ok.rd h hI hT (by unfold fX7_readyNow; rw [if_neg c2])
      · rw [if_neg (by rw [c1]; decide)]
        exact Ok.rd h hI hT (by unfold fX7_readyNow; rw [if_pos c2])
    · rw [if_neg (by rw [b1]; decide), if_pos b2, b1]; exact Ok.no (T := T) h hI hT (by simp) rfl
  · rw [if_neg (by rw [a1]; decide), if_pos a2, a1]; exact Ok.no (T := T) h hI hT (by simp) rfl
theorem driedFrom_eq2 {k r : Nat} {x tm wm : Int32} {m1 : Md} (e5 : x = m1 r 5) (e0 : g 3 (3 + k) 0 = m1 r 0) (e8 : g 3 (3 + k) 8 = m1 r 8) (e9 : g 3 (3 + k) 9 = m1 r 9) (h8 : 5 ≤ (m1 r 8).toInt) (h9 : m1 r 9 = 0 ∨ m1 r 9 = 1) : fX1_driedFrom g k x tm wm = drM na nb nc nd T m1 r (tm - tm / 24 * 24) wm := by
  have q0 : (0 : Int32).toInt = 0 := rfl
  unfold fX1_driedFrom drM fX7_dries fX1_depth
  rw [e0, e8, e9, e5]
  rw [if_neg (show ¬ m1 r 8 ≤ 0 by rw [le_ti, q0]; omega)]
  generalize tm - tm / 24 * 24 = v
  rcases rng_is v 8 17 with ⟨b1, b2, b3, b4⟩ | ⟨b1, b2⟩ | ⟨b1, b2, b3, b4⟩
  · rw [if_neg b1, if_pos b2, if_neg b4]
    rcases h9 with h9 | h9
    · rw [if_pos h9, if_neg (show ¬ m1 r 9 = 1 by rw [h9]; decide)]
    · rw [if_neg (show ¬ m1 r 9 = 0 by rw [h9]; decide), if_pos h9]
  · rw [if_pos b1, if_pos b2]
  · rw [if_neg b1, if_neg b2, if_pos b4]
theorem dryl (g : Gd) (x wt mo : Int32) (n k : Nat) (hk : k ≤ 400) : fX6_dryIn_L31 g x wt (n + 1) k mo = if 125 < (if nI k ≤ 0 then mo else fX1_driedFrom g x.toNatClampNeg mo (g 0 0 0 + nI k) wt) then fX6_dryIn_L31 g x wt n (k + 1) (if nI k ≤ 0 then mo else fX1_driedFrom g x.toNatClampNeg mo (g 0 0 0 + nI k) wt) else (0, nI k) := by
  have hk2 : ¬ (400 : Int32) < nI k := by
    rw [lt_ti, ti_nI (by omega)]
    have : (400 : Int32).toInt = 400 := rfl
    omega
  rw [fX6_dryIn_L31, if_neg hk2]
  by_cases c : nI k ≤ 0
  · rw [if_pos c, if_pos c]
  · rw [if_neg c, if_neg c]
theorem dry_loop {x wt hr0 : Int32} {r0 : Nat} {be : Int32} {m0 : Md} (hr : 1 ≤ r0) (eh : g 0 0 0 = hr0) (h8 : 5 ≤ (g 3 (3 + x.toNatClampNeg) 8).toInt) (h9 : g 3 (3 + x.toNatClampNeg) 9 = 0 ∨ g 3 (3 + x.toNatClampNeg) 9 = 1) : ∀ (n f k : Nat) (mo : Int32) (m1 : Md), k + n = 401 → n < f → m1 0 0 = hr0 → m1 r0 0 = g 3 (3 + x.toNatClampNeg) 0 → m1 r0 8 = g 3 (3 + x.toNatClampNeg) 8 → m1 r0 9 = g 3 (3 + x.toNatClampNeg) 9 → ((k = 401) ∨ (if nI k ≤ 0 then mo else fX1_driedFrom g x.toNatClampNeg mo (g 0 0 0 + nI k) wt) = m1 r0 5) → fX6_dryIn_L31 g x wt f k mo = (0, fX7_dryNow_L29 na nb nc nd T m0 be wt r0 n k m1) := by
  intro n
  induction n with
  | zero =>
    intro f k mo m1 hkn hf e00 e0 e8 e9 e5
    obtain ⟨f, rfl⟩ : ∃ f', f = f' + 1 := ⟨f - 1, by omega⟩
    obtain rfl : k = 401 := by omega
    rw [fX6_dryIn_L31, if_pos (by decide)]; rfl
  | succ n ih =>
    intro f k mo m1 hkn hf e00 e0 e8 e9 e5
    obtain ⟨f, rfl⟩ : ∃ f', f = f' + 1 := ⟨f - 1, by omega⟩
    rw [dryl _ _ _ _ _ _ (by omega), fX7_dryNow_L29]
    rw [e5.resolve_left (by omega)]
    by_cases c : 125 < m1 r0 5
    · rw [if_pos c, if_pos c, dryU_eq]
      refine ih f (k + 1) _ _ (by omega) (by omega) ((u2_nr (by omega)).trans e00) ((u2_nk (by decide)).trans e0) ((u2_nk (by decide)).trans e8) ((u2_nk (by decide)).trans e9) (Or.inr ?_)
      have hk1 : ¬ nI (k + 1) ≤ 0 := by
        rw [le_ti, ti_nI (by omega)]
        have : (0 : Int32).toInt = 0 := rfl
        omega
      rw [if_neg hk1, u2_eq, driedFrom_eq2 (na := na) (nb := nb) (nc := nc) (nd := nd) (T := T) rfl e0.symm e8.symm e9.symm (by rw [e8]; exact h8) (by rw [e9]; exact h9), eh, nI_s, ← e00, Int32.add_assoc]
    · rw [if_neg c, if_neg c]
theorem P_dryIn (h : Rl na nb nc nd g m) (hI : Iv na nb nc nd m) (hT : Tr g) (x wt : Int32) : Ok na nb nc nd (k12 (fX6_dryIn g x wt).1) (fX6_dryIn g x wt).1 (fX6_dryIn g x wt).2 g (fX7_dryIn na nb nc nd T m x wt).1 (fX7_dryIn na nb nc nd T m x wt).2 := by
  unfold fX6_dryIn fX7_dryIn
  rcases bed_is (T := T) h hI x with ⟨a1, a2, a3, a4⟩ | ⟨a1, a2⟩
  · rw [if_pos a1, if_neg (a2 _)]
    rcases warm_is (g := g) wt with ⟨b1, b2⟩ | ⟨b1, b2⟩
    · rw [if_pos b1, if_neg b2]
      have h2 := h.th (v := 0)
      have hI2 := hI.th (v := 0)
      have e0 := h2.b3 hI2 (i := x.toNatClampNeg) (k := 0) a3 (by decide)
      have e5 := h2.b3 hI2 (i := x.toNatClampNeg) (k := 5) a3 (by decide)
      have e8 := h2.b3 hI2 (i := x.toNatClampNeg) (k := 8) a3 (by decide)
      have e9 := h2.b3 hI2 (i := x.toNatClampNeg) (k := 9) a3 (by decide)
      have bI := hI2.2.2.2.2.2.1 _ a3
      rw [e0]
      rcases empty_is (x := u2 m 0 20 0 (303 + x.toNatClampNeg) 0) with ⟨c1, c2⟩ | ⟨c1, c2⟩
      · rw [if_pos c1]
        have L := dry_loop (T := T + 1) (na := na) (nb := nb) (nc := nc) (nd := nd) (wt := wt) (be := x) (m0 := u2 m 0 20 0) (r0 := 400 + T) (by omega) (h2.s (k := 0) (by decide)) (by rw [e8]; exact bI.2.2.2.2.1.1) (by rw [e9]; exact bI.2.2.2.2.2.1) 401 402 0 (g 3 (3 + x.toNatClampNeg) 5) (rz (u2 m 0 20 0) (400 + T) (fun k => u2 m 0 20 0 (303 + x.toNatClampNeg) k)) (by omega) (by omega) (rz_nr (by omega)) ((rz_eq _ _ _ _).trans e0.symm) ((rz_eq _ _ _ _).trans e8.symm) ((rz_eq _ _ _ _).trans e9.symm) (Or.inr (by rw [if_pos (show nI 0 ≤ 0 by decide), rz_eq]; exact e5))
        rw [L]
        exact Ok.rd h hI hT (by unfold fX7_dryNow; rw [if_neg c2])
      · rw [if_neg (by rw [c1]; decide)]
        exact Ok.rd h hI hT (by unfold fX7_dryNow; rw [if_pos c2])
    · rw [if_neg (by rw [b1]; decide), if_pos b2, b1]; exact Ok.no (T := T) h hI hT (by simp) rfl
  · rw [if_neg (by rw [a1]; decide), if_pos (a2 _), a1]; exact Ok.no (T := T) h hI hT (by simp) rfl
end TI
