/-! ===== isSo answers 1 ===== -/
theorem nle {k n : Nat} (hk : k < 1000) (hn : n < 1000) : nI n ≤ nI k ↔ n ≤ k := by
  rw [le_ti, ti_nI (by omega), ti_nI (by omega)]; omega
section IS
variable {na nb nc nd : Nat} {g : Gd} {x y : Int32} {H C W T O : Int32}
theorem SY.fk (S : SY na nb nc nd g) {k : Nat} (hk : k < na) : fX6_farmAt g (nI k) = 0 ∧ fX6_needFarm g (nI k) = 0 ∧ (nI k).toNatClampNeg = k := by
  have z := S.cnt
  have e : (nI k).toInt = k := ti_nI (by omega)
  have q := S.fa (x := nI k) (by omega) (by omega)
  exact ⟨q.1, q.2.1, nI_clamp (by omega)⟩
theorem SY.bk (S : SY na nb nc nd g) {k : Nat} (hk : k < nb) : fX6_basketAt g (nI k) = 0 ∧ (nI k).toNatClampNeg = k := by
  have z := S.cnt
  have e : (nI k).toInt = k := ti_nI (by omega)
  have q := S.ba (x := nI k) (by omega) (by omega)
  exact ⟨q.1, nI_clamp (by omega)⟩
theorem SY.dk (S : SY na nb nc nd g) {k : Nat} (hk : k < nc) : fX6_bedAt g (nI k) = 0 ∧ (nI k).toNatClampNeg = k := by
  have z := S.cnt
  have e : (nI k).toInt = k := ti_nI (by omega)
  have q := S.be (x := nI k) (by omega) (by omega)
  exact ⟨q.1, nI_clamp (by omega)⟩
theorem SY.lk (S : SY na nb nc nd g) {k : Nat} (hk : k < nd) : fX6_lotAt g (nI k) = 0 ∧ (nI k).toNatClampNeg = k := by
  have z := S.cnt
  have e : (nI k).toInt = k := ti_nI (by omega)
  have q := S.lo (x := nI k) (by omega) (by omega)
  exact ⟨q.1, nI_clamp (by omega)⟩
/-! the class's sums -/
theorem v_lots (S : SY na nb nc nd g) : ∀ (n k : Nat) (a : Int32), nd < k + n → k ≤ nd → a = sm (ins g) k → fX6_lotsInStore_L4 g n k a = sm (ins g) nd := by
  have z := S.cnt
  intro n
  induction n with
  | zero => intro k a h1 h2; exact absurd h1 (by omega)
  | succ n ih =>
    intro k a h1 h2 ha
    rw [fX6_lotsInStore_L4, S.d]
    by_cases c : nd ≤ k
    · have e : k = nd := by omega
      rw [if_pos ((nle (by omega) (by omega)).mpr c), ha, e]
    · rw [if_neg (fun q => c ((nle (by omega) (by omega)).mp q))]
      have es : sm (ins g) (k + 1) = sm (ins g) k + ins g k := rfl
      by_cases q : g 3 (8 + k) 10 = 0
      · rw [if_pos q]
        exact ih _ _ (by omega) (by omega) (by rw [es, ha]; unfold ins; rw [if_pos q]; exact (Int32.add_zero _).symm)
      · rw [if_neg q]
        exact ih _ _ (by omega) (by omega) (by rw [es, ha]; show _ = _ + ins g k; unfold ins; rw [if_neg q])
theorem v_instore (S : SY na nb nc nd g) : ∀ (n k : Nat) (a : Int32), nd < k + n → k ≤ nd → a = sm (sk g) k → fX6_allKilosInStore_L4 g n k a = sm (sk g) nd := by
  have z := S.cnt
  intro n
  induction n with
  | zero => intro k a h1 h2; exact absurd h1 (by omega)
  | succ n ih =>
    intro k a h1 h2 ha
    rw [fX6_allKilosInStore_L4, S.d]
    by_cases c : nd ≤ k
    · have e : k = nd := by omega
      rw [if_pos ((nle (by omega) (by omega)).mpr c), ha, e]
    · rw [if_neg (fun q => c ((nle (by omega) (by omega)).mp q))]
      have es : sm (sk g) (k + 1) = sm (sk g) k + sk g k := rfl
      by_cases q : g 3 (8 + k) 10 = 0
      · rw [if_pos q]
        exact ih _ _ (by omega) (by omega) (by rw [es, ha]; show _ = _ + sk g k; unfold sk; rw [if_pos q]; exact (Int32.add_zero _).symm)
      · rw [if_neg q]
        exact ih _ _ (by omega) (by omega) (by rw [es, ha]; show _ = _ + sk g k; unfold sk; rw [if_neg q])
theorem v_wait (S : SY na nb nc nd g) : ∀ (n k : Nat) (a : Int32), nb < k + n → k ≤ nb → a = sm (wt g) k → fX6_waitingKilos_L4 g n k a = sm (wt g) nb := by
  have z := S.cnt
  intro n
  induction n with
  | zero => intro k a h1 h2; exact absurd h1 (by omega)
  | succ n ih =>
    intro k a h1 h2 ha
    rw [fX6_waitingKilos_L4, S.b]
    by_cases c : nb ≤ k
    · have e : k = nb := by omega
      rw [if_pos ((nle (by omega) (by omega)).mpr c), ha, e]
    · rw [if_neg (fun q => c ((nle (by omega) (by omega)).mp q))]
      have es : sm (wt g) (k + 1) = sm (wt g) k + wt g k := rfl
      by_cases q : g 2 k 3 = 0
      · rw [if_pos q]
        exact ih _ _ (by omega) (by omega) (by rw [es, ha]; show _ = _ + wt g k; unfold wt; rw [if_pos q])
      · rw [if_neg q]
        exact ih _ _ (by omega) (by omega) (by rw [es, ha]; show _ = _ + wt g k; unfold wt; rw [if_neg q]; exact (Int32.add_zero _).symm)
theorem v_beds (S : SY na nb nc nd g) : ∀ (n k : Nat) (a : Int32), nc < k + n → k ≤ nc → a = sm (bkl g) k → fX6_kilosOnBeds_L4 g n k a = sm (bkl g) nc := by
  have z := S.cnt
  intro n
  induction n with
  | zero => intro k a h1 h2; exact absurd h1 (by omega)
  | succ n ih =>
    intro k a h1 h2 ha
    rw [fX6_kilosOnBeds_L4, S.c]
    by_cases c : nc ≤ k
    · have e : k = nc := by omega
      rw [if_pos ((nle (by omega) (by omega)).mpr c), ha, e]
    · rw [if_neg (fun q => c ((nle (by omega) (by omega)).mp q))]
      exact ih _ _ (by omega) (by omega) (by rw [ha]; rfl)
theorem v_coins (S : SY na nb nc nd g) : ∀ (n k : Nat) (a : Int32), na < k + n → k ≤ na → a = sm (cns g) k → fX6_allCoins_L4 g n k a = sm (cns g) na := by
  have z := S.cnt
  intro n
  induction n with
  | zero => intro k a h1 h2; exact absurd h1 (by omega)
  | succ n ih =>
    intro k a h1 h2 ha
    rw [fX6_allCoins_L4, S.a]
    by_cases c : na ≤ k
    · have e : k = na := by omega
      rw [if_pos ((nle (by omega) (by omega)).mpr c), ha, e]
    · rw [if_neg (fun q => c ((nle (by omega) (by omega)).mp q))]
      exact ih _ _ (by omega) (by omega) (by rw [ha]; rfl)
theorem coins_v (S : SY na nb nc nd g) : fX6_allCoins g = sm (cns g) 6 := by
  have z := S.cnt
  unfold fX6_allCoins
  rw [v_coins S 7 0 0 (by omega) (by omega) rfl]
  exact (sm_0 6 (fun i h1 h2 => (S.fz h2 (by omega)).1) z.1).symm
/-! the law's loops -/
theorem L42 (S : SY na nb nc nd g) {f : Nat} (hf : f < na) : ∀ (n j : Nat) (a : Int32), nd < j + n → j ≤ nd → fL_isSo_L42 g x y f H C n j a = fX6_kilosInStore_L4 g (nI f) n j a := by
  have z := S.cnt
  intro n
  induction n with
  | zero => intro k a h1 h2; exact absurd h1 (by omega)
  | succ n ih =>
    intro j a h1 h2
    rw [fL_isSo_L42, fX6_kilosInStore_L4, S.d]
    by_cases c : nd ≤ j
    · rw [if_pos ((nle (by omega) (by omega)).mpr c), if_pos ((nle (by omega) (by omega)).mpr c)]
    · have cc : ¬ nI nd ≤ nI j := fun q => c ((nle (by omega) (by omega)).mp q)
      have K := S.lk (k := j) (by omega)
      have F := S.fk hf
      have e2 : (fX6_ofLot g (nI j) 2).2 = if g 3 (8 + j) 10 = 0 then 0 else 1 := by rw [rd_lot2 K.1, K.2]
      have e3 : (fX6_kilosOf g (nI j) (nI f)).2 = g 4 (8 + j) f := by rw [rd_kilos K.1 F.2.1, K.2, F.2.2]
      rw [if_neg cc, if_neg cc, e2, e3, F.2.2]
      by_cases q : g 3 (8 + j) 10 = 0
      · rw [if_pos q, if_neg (show ¬ (0 : Int32) = 1 by decide), if_pos q, Int32.add_zero]
        exact ih _ _ (by omega) (by omega)
      · rw [if_neg q, if_pos (show (1 : Int32) = 1 from rfl), if_neg q]
        exact ih _ _ (by omega) (by omega)
theorem L8 (S : SY na nb nc nd g) : ∀ (n k : Nat) (h c : Int32), na < k + n → k ≤ na → h = sm (evr g) k → c = sm (cns g) k → fL_isSo_L8 g (nI na) y n k h c = fL_isSo_L112 g (nI na) y 21 0 (sm (evr g) na) (sm (cns g) na) 0 := by
  have z := S.cnt
  intro n
  induction n with
  | zero => intro k h c h1 h2; exact absurd h1 (by omega)
  | succ n ih =>
    intro k h c h1 h2 hh hc
    rw [fL_isSo_L8]
    by_cases q : na ≤ k
    · have e : k = na := by omega
      rw [if_pos ((nle (by omega) (by omega)).mpr q), hh, hc, e]
    · have F := S.fk (k := k) (by omega)
      have e4 : (fX6_ofFarm g (nI k) 4).2 = fL_isSo_L42 g (nI na) y k h c 13 0 0 := by
        rw [rd_farm4 F.1, L42 S (by omega) 13 0 0 (by omega) (by omega)]; rfl
      have e3 : (fX6_ofFarm g (nI k) 3).2 = g 1 k 3 := by rw [rd_farm3 F.1, F.2.2]
      have e2 : (fX6_ofFarm g (nI k) 2).2 = g 1 k 2 := by rw [rd_farm2 F.1, F.2.2]
      rw [if_neg (fun r => q ((nle (by omega) (by omega)).mp r)), if_pos e4, e3, e2]
      exact ih _ _ _ (by omega) (by omega) (by rw [hh]; rfl) (by rw [hc]; rfl)
theorem ite_st {c d : Prop} [Decidable c] [Decidable d] {R Z : Int32} (h : c → d) : (if c then (if d then R else Z) else R) = R := by
  by_cases q : c
  · rw [if_pos q, if_pos (h q)]
  · rw [if_neg q]
theorem tank_ok (S : SY na nb nc nd g) (E : E0 na nc g) {x : Int32} {i : Nat} (hx : x.toInt = i) (hi : i < 3) : (fX6_ofTank g x 0).2 = g 3 i 0 ∧ ¬ 300 < (fX6_ofTank g x 0).2 ∧ ¬ 100 < (fX6_ofTank g x 1).2 ∧ ¬ (fX6_ofTank g x 0).2 < (fX6_ofTank g x 4).2 ∧ ((fX6_ofTank g x 0).2 = 0 → (((fX6_ofTank g x 1).2 + (fX6_ofTank g x 2).2) + (fX6_ofTank g x 3).2) + (fX6_ofTank g x 4).2 = 0) := by
  have q := tk_at (g := g) (x := x) (by omega) (by omega)
  have c := clamp_ti (x := x) (by omega)
  have ec : x.toNatClampNeg = i := by omega
  have M := S.tank hi
  have ce := M.cert (by omega)
  have e3 : (300 : Int32).toInt = 300 := rfl
  have e1 : (100 : Int32).toInt = 100 := rfl
  have e0 : (0 : Int32).toInt = 0 := rfl
  rw [rd_tank0 q.1, rd_tank1 q.1, rd_tank2 q.1, rd_tank3 q.1, rd_tank4 q.1, ec]
  dsimp only
  refine ⟨rfl, ?_, ?_, ?_, fun h => ?_⟩
  · rw [lt_ti, e3]; have := M.2.2.1; omega
  · rw [lt_ti, e1]; have := M.2.2.2.2; omega
  · rw [lt_ti]; omega
  · obtain ⟨t1, t2, t3⟩ := E.x2 hi h
    have hk := congrArg Int32.toInt h
    rw [e0] at hk
    have t4 : fX4_certifiedKilos g i = 0 := ti_eq (by rw [e0]; omega)
    rw [t1, t2, t3, t4]; rfl
theorem L112 (S : SY na nb nc nd g) (E : E0 na nc g) : ∀ (n k : Nat) (w : Int32), nb < k + n → k ≤ nb → w = sm (wt g) k → fL_isSo_L112 g x y n k H C w = fL_isSo_L331 g x y 6 0 H C (sm (wt g) nb) (sm (tkl g) 3) 0 := by
  have z := S.cnt
  intro n
  induction n with
  | zero => intro k a h1 h2; exact absurd h1 (by omega)
  | succ n ih =>
    intro k w h1 h2 hw
    rw [fL_isSo_L112, S.b]
    by_cases q : nb ≤ k
    · have e : k = nb := by omega
      obtain ⟨a0, a1, a2, a3, a4⟩ := tank_ok S E (x := 0) (i := 0) rfl (by decide)
      obtain ⟨b0, b1, b2, b3, b4⟩ := tank_ok S E (x := 1) (i := 1) rfl (by decide)
      obtain ⟨c0, c1, c2, c3, c4⟩ := tank_ok S E (x := 2) (i := 2) rfl (by decide)
      rw [if_pos ((nle (by omega) (by omega)).mpr q), if_neg a1, if_neg a2, if_neg a3, if_neg b1, if_neg b2, if_neg b3, if_neg c1, if_neg c2, if_neg c3, ite_st c4, ite_st b4, ite_st a4, a0, b0, c0, hw, e]
      rfl
    · have B := S.bk (k := k) (by omega)
      obtain ⟨x1, x2, x3, x4⟩ := E.x4 (i := k) (by omega)
      have e25 : (25 : Int32).toInt = 25 := rfl
      have e24 : (24 : Int32).toInt = 24 := rfl
      have v3 : (fX6_ofBasket g (nI k) 3).2 = g 2 k 3 := by rw [rd_bask3 B.1, B.2]
      have v4 : (fX6_ofBasket g (nI k) 4).2 = g 2 k 4 := by rw [rd_bask4 B.1, B.2]
      have v1 : (fX6_ofBasket g (nI k) 1).2 = g 2 k 1 := by rw [rd_bask1 B.1, B.2]
      have n25 : ¬ 25 < g 2 k 4 := by rw [lt_ti, e25]; omega
      have es : sm (wt g) (k + 1) = sm (wt g) k + wt g k := rfl
      rw [if_neg (fun r => q ((nle (by omega) (by omega)).mp r)), v3, v4, v1]
      by_cases c : g 2 k 3 = 0
      · have n24 : ¬ 24 < g 2 k 4 := by rw [lt_ti, e24]; have := x3 c; omega
        rw [if_pos c, if_neg n25, if_neg n24, if_neg (show ¬ g 2 k 3 = 3 by rw [c]; decide)]
        exact ih _ _ (by omega) (by omega) (by rw [es, hw]; show _ = _ + wt g k; unfold wt; rw [if_pos c])
      · have hr : w + 0 = sm (wt g) (k + 1) := by rw [es, hw]; show _ = _ + wt g k; unfold wt; rw [if_neg c]
        rw [if_neg c, if_neg n25]
        by_cases c3 : g 2 k 3 = 3
        · rw [if_pos c3, if_pos (x4 c3)]
          exact ih _ _ (by omega) (by omega) hr
        · rw [if_neg c3]
          exact ih _ _ (by omega) (by omega) hr
theorem L331 (S : SY na nb nc nd g) (E : E0 na nc g) : ∀ (n k : Nat) (o : Int32), nc < k + n → k ≤ nc → o = sm (bkl g) k → fL_isSo_L331 g x (nI nc) n k H C W T o = fL_isSo_L493 g x (nI nc) 13 0 H C W T (sm (bkl g) nc) 0 0 := by
  have z := S.cnt
  intro n
  induction n with
  | zero => intro k a h1 h2; exact absurd h1 (by omega)
  | succ n ih =>
    intro k o h1 h2 ho
    rw [fL_isSo_L331]
    by_cases q : nc ≤ k
    · have e : k = nc := by omega
      rw [if_pos ((nle (by omega) (by omega)).mpr q), ho, e]
    · have hk : k < nc := by omega
      have B := S.dk hk
      obtain ⟨x1, x2, x3, x5, x6⟩ := E.x3 hk
      obtain ⟨y1, y2, y3, y4, y5, y6⟩ := S.bedv hk
      have M := S.bed (i := k) (by omega)
      have f6 := M.f6
      have e0 : (0 : Int32).toInt = 0 := rfl
      have e2 : (2 : Int32).toInt = 2 := rfl
      have e12 : (12 : Int32).toInt = 12 := rfl
      have e80 : (80 : Int32).toInt = 80 := rfl
      have e600 : (600 : Int32).toInt = 600 := rfl
      have v0 : (fX6_ofBed g (nI k) 0).2 = g 3 (3 + k) 8 := by rw [rd_bed0 B.1, B.2]
      have v2 : (fX6_ofBed g (nI k) 2).2 = g 3 (3 + k) 0 := by rw [rd_bed2 B.1, B.2]
      have v3 : (fX6_ofBed g (nI k) 3).2 = g 3 (3 + k) 4 := by rw [rd_bed3 B.1, B.2]
      have v4 : (fX6_ofBed g (nI k) 4).2 = g 3 (3 + k) 5 := by rw [rd_bed4 B.1, B.2]
      have v5 : (fX6_ofBed g (nI k) 5).2 = g 3 (3 + k) 6 := by rw [rd_bed5 B.1, B.2]
      have v6 : (fX6_ofBed g (nI k) 6).2 = g 3 (3 + k) 7 := by rw [rd_bed6 B.1, B.2]
      have v7 : (fX6_ofBed g (nI k) 7).2 = g 3 (3 + k) 3 := by rw [rd_bed7 B.1, B.2]
      have ea : (12 * g 3 (3 + k) 8).toInt = 12 * (g 3 (3 + k) 8).toInt := by rw [ti_mul (by rw [e12]; omega) (by rw [e12]; omega), e12]
      have na12 : ¬ 12 * g 3 (3 + k) 8 < g 3 (3 + k) 0 := by rw [lt_ti, ea]; omega
      have hr : o + g 3 (3 + k) 0 = sm (bkl g) (k + 1) := by rw [ho]; rfl
      rw [if_neg (fun r => q ((nle (by omega) (by omega)).mp r)), v0, v2, v3, v4, v5, v6, v7]
      by_cases c : g 3 (3 + k) 0 ≤ 0
      · have hz : g 3 (3 + k) 0 = 0 := ti_eq (by rw [le_ti, e0] at c; rw [e0]; omega)
        obtain ⟨w1, w2, w3⟩ := x3 hz
        obtain ⟨u1, u2⟩ := y6 hz
        rw [if_pos c, if_neg na12, if_pos (by rw [w1, w2, w3, u1, u2]; rfl)]
        exact ih _ _ (by omega) (by omega) hr
      · have hz : ¬ g 3 (3 + k) 0 = 0 := fun w => c (by rw [w]; decide)
        have w := x2 hz
        have m2 : ¬ 2 < g 3 (3 + k) 4 := by rcases y3 with h | h | h <;> rw [h] <;> decide
        rw [if_neg c, if_neg na12, if_neg (show ¬ g 3 (3 + k) 5 < 80 by rw [lt_ti, e80]; omega), if_neg (show ¬ 600 < g 3 (3 + k) 5 by rw [lt_ti, e600]; omega), if_neg m2]
        exact ih _ _ (by omega) (by omega) hr
theorem L509 (S : SY na nb nc nd g) {k : Nat} (hk : k < nd) {p q r s t u v : Int32} : ∀ (n j : Nat) (a : Int32), na < j + n → j ≤ na → a = sm (fun f => g 4 (8 + k) f) j → fL_isSo_L509 g (nI na) y k p q r s t u v n j a = sm (fun f => g 4 (8 + k) f) na := by
  have z := S.cnt
  intro n
  induction n with
  | zero => intro k a h1 h2; exact absurd h1 (by omega)
  | succ n ih =>
    intro j a h1 h2 ha
    rw [fL_isSo_L509]
    by_cases c : na ≤ j
    · have e : j = na := by omega
      rw [if_pos ((nle (by omega) (by omega)).mpr c), ha, e]
    · have K := S.lk hk
      have F := S.fk (k := j) (by omega)
      have e3 : (fX6_kilosOf g (nI k) (nI j)).2 = g 4 (8 + k) j := by rw [rd_kilos K.1 F.2.1, K.2, F.2.2]
      rw [if_neg (fun r => c ((nle (by omega) (by omega)).mp r)), e3]
      exact ih _ _ (by omega) (by omega) (by rw [ha]; rfl)
theorem L509k (S : SY na nb nc nd g) (E : E0 na nc g) {k : Nat} (hk : k < nd) {p q r s t u v : Int32} : fL_isSo_L509 g (nI na) y k p q r s t u v 7 0 0 = g 3 (8 + k) 0 := by
  have z := S.cnt
  rw [L509 S hk 7 0 0 (by omega) (by omega) rfl, ← (S.lot (i := k) (by omega)).sum (by omega)]
  exact (sm_0 6 (fun f h1 h2 => E.x1 (by omega) h1 h2) z.1).symm
theorem L493 (S : SY na nb nc nd g) (E : E0 na nc g) (hH : H = ((((W + T) + O) + sm (sk g) nd) + g 0 0 4) + g 0 0 5) (hC : fX6_allCoins g = C) (hW : fX6_waitingKilos g = W) (hT : fX6_kilosInTanks g = T) (hO : fX6_kilosOnBeds g = O) : ∀ (n k : Nat) (i s : Int32), nd < k + n → k ≤ nd → i = sm (sk g) k → s = sm (ins g) k → fL_isSo_L493 g (nI na) y n k H C W T O i s = 1 := by
  have z := S.cnt
  intro n
  induction n with
  | zero => intro k i s h1 h2; exact absurd h1 (by omega)
  | succ n ih =>
    intro k i s h1 h2 hi hs
    rw [fL_isSo_L493, S.d]
    by_cases q : nd ≤ k
    · have e : k = nd := by omega
      have w1 : fX6_lotsInStore g = s := by unfold fX6_lotsInStore; rw [v_lots S 13 0 0 (by omega) (by omega) rfl, hs, e]
      have w2 : fX6_allKilosInStore g = i := by unfold fX6_allKilosInStore; rw [v_instore S 13 0 0 (by omega) (by omega) rfl, hi, e]
      rw [if_pos ((nle (by omega) (by omega)).mpr q), if_pos w1, if_pos hW, if_pos hT, if_pos hO, if_pos w2, if_pos hC, if_pos (by rw [hH, hi, e])]
    · have hk : k < nd := by omega
      have K := S.lk hk
      have M := S.lot (i := k) (by omega)
      have f6 := M.f6
      have ce := M.cert (by omega)
      have sc := score_b S hk
      have gr := grade_b (g := g) (i := k) (fun c hc => E.x5 (by omega) hc)
      have ca := cause_b (g := g) (i := k)
      obtain ⟨y1, y2, y3, y4, y5, y6, y7⟩ := S.lotv hk
      have e0 : (0 : Int32).toInt = 0 := rfl
      have e40 : (40 : Int32).toInt = 40 := rfl
      have e92 : (92 : Int32).toInt = 92 := rfl
      have e100 : (100 : Int32).toInt = 100 := rfl
      have eA : ∀ {p q r s t u v : Int32}, fL_isSo_L509 g (nI na) y k p q r s t u v 7 0 0 = g 3 (8 + k) 0 := L509k S E hk
      have v0 : (fX6_ofLot g (nI k) 0).2 = g 3 (8 + k) 0 := by rw [rd_lot0 K.1, K.2]
      have v2 : (fX6_ofLot g (nI k) 2).2 = if g 3 (8 + k) 10 = 0 then 0 else 1 := by rw [rd_lot2 K.1, K.2]
      have v3 : (fX6_ofLot g (nI k) 3).2 = fX4_certifiedKilos g (8 + k) := by rw [rd_lot3 K.1, K.2]
      have v4 : (fX6_ofLot g (nI k) 4).2 = g 3 (8 + k) 1 := by rw [rd_lot4 K.1, K.2]
      have v9 : (fX6_ofLot g (nI k) 9).2 = fX3_grade g k := by rw [rd_lot9 K.1, K.2]
      have v10 : (fX6_ofLot g (nI k) 10).2 = if g 3 (8 + k) 0 = 0 then 0 else fX3_score g k := by rw [rd_lot10 K.1, K.2]
      have v11 : (fX6_ofLot g (nI k) 11).2 = if g 3 (8 + k) 0 = 0 then 0 else fX3_cause g k := by rw [rd_lot11 K.1, K.2]
      have c3 : ¬ g 3 (8 + k) 0 < fX4_certifiedKilos g (8 + k) := by rw [lt_ti]; omega
      have c4 : ¬ 100 < g 3 (8 + k) 1 := by rw [lt_ti, e100]; have := M.2.2.2; omega
      have c11 : ¬ (fX6_ofLot g (nI k) 11).2 < 0 ∧ ¬ 5 < (fX6_ofLot g (nI k) 11).2 := by
        rw [v11]
        by_cases w : g 3 (8 + k) 0 = 0
        · rw [if_pos w]; decide
        · rw [if_neg w]; exact ca
      have s1 : ¬ fX3_score g k < 40 := by rw [lt_ti, e40]; omega
      have s2 : ¬ 92 < fX3_score g k := by rw [lt_ti, e92]; omega
      have s3 : ¬ fX3_score g k = 0 := fun w => by rw [w, e0] at sc; omega
      have es : sm (sk g) (k + 1) = sm (sk g) k + sk g k := rfl
      have en : sm (ins g) (k + 1) = sm (ins g) k + ins g k := rfl
      have fin : ∀ R : Int32, R = 1 → (if (fX6_ofLot g (nI k) 9).2 = (-1) then R else (if (fX6_ofLot g (nI k) 9).2 < 40 then (0 : Int32) else (if (fX6_ofLot g (nI k) 9).2 ≤ 92 then R else 0))) = 1 := by
        intro R hR
        rw [v9]
        by_cases w : fX3_grade g k = -1
        · rw [if_pos w]; exact hR
        · have gb := gr.resolve_left w
          rw [if_neg w, if_neg (show ¬ fX3_grade g k < 40 by rw [lt_ti, e40]; omega), if_pos (show fX3_grade g k ≤ 92 by rw [le_ti, e92]; omega)]
          exact hR
      rw [if_neg (fun r => q ((nle (by omega) (by omega)).mp r))]
      simp only [eA]
      rw [v0, v2, v3, v4, v10]
      by_cases ist : g 3 (8 + k) 10 = 0
      · have r1 : i + 0 = sm (sk g) (k + 1) := by rw [es, hi]; show _ = _ + sk g k; unfold sk; rw [if_pos ist]
        have r2 : s + 0 = sm (ins g) (k + 1) := by rw [en, hs]; show _ = _ + ins g k; unfold ins; rw [if_pos ist]
        rw [if_pos ist, if_neg (show ¬ (0 : Int32) = 1 by decide), if_pos rfl, if_neg c3, if_neg c4]
        by_cases w : g 3 (8 + k) 0 = 0
        · rw [if_pos w, if_pos rfl, if_pos w, if_neg c11.1, if_neg c11.2]
          exact fin _ (ih _ _ _ (by omega) (by omega) r1 r2)
        · rw [if_neg w, if_neg s3, if_neg s1, if_neg s2, if_neg w, if_neg c11.1, if_neg c11.2]
          exact fin _ (ih _ _ _ (by omega) (by omega) r1 r2)
      · have i1 : g 3 (8 + k) 10 = 1 := y6.resolve_left ist
        have kp := y7 i1
        have w : ¬ g 3 (8 + k) 0 = 0 := fun w => by rw [w, e0] at kp; omega
        have r1 : i + g 3 (8 + k) 0 = sm (sk g) (k + 1) := by rw [es, hi]; show _ = _ + sk g k; unfold sk; rw [if_neg ist]
        have r2 : s + 1 = sm (ins g) (k + 1) := by rw [en, hs]; show _ = _ + ins g k; unfold ins; rw [if_neg ist]
        rw [if_neg ist, if_pos rfl, if_pos rfl, if_neg w, if_neg c3, if_neg c4, if_neg w, if_neg s3, if_neg s1, if_neg s2, if_neg c11.1, if_neg c11.2]
        exact fin _ (ih _ _ _ (by omega) (by omega) r1 r2)
theorem isSo_1 (S : SY na nb nc nd g) (E : E0 na nc g) (B : BAL g) : fL_isSo g (nI na) (nI nc) = 1 := by
  have z := S.cnt
  have q1 : sm (evr g) 6 = sm (evr g) na := sm_0 6 (fun i h1 h2 => (S.fz h2 (by omega)).2) z.1
  have q2 : sm (wt g) 20 = sm (wt g) nb := sm_0 20 (fun i h1 h2 => by
    have k := S.kz h2 (by omega)
    show (if g 2 i 3 = 0 then g 2 i 1 else 0) = 0
    rw [if_pos (k 3 (by decide)), k 1 (by decide)]) z.2.1
  have q3 : sm (bkl g) 5 = sm (bkl g) nc := sm_0 5 (fun i h1 h2 => (cr_3 (by decide)).symm.trans (S.bz h2 (by omega) 0 (by decide))) z.2.2.1
  have q4 : sm (sk g) 12 = sm (sk g) nd := sm_0 12 (fun i h1 h2 => by
    have k := S.lz h2 (by omega) 10 (by decide)
    rw [cr_3 (by decide)] at k
    show (if g 3 (8 + i) 10 = 0 then 0 else g 3 (8 + i) 0) = 0
    rw [if_pos k]) z.2.2.2
  unfold BAL at B
  rw [q1, q2, q3, q4] at B
  unfold fL_isSo
  rw [L8 S 7 0 0 0 (by omega) (by omega) rfl rfl, L112 S E 21 0 0 (by omega) (by omega) rfl, L331 S E 6 0 0 (by omega) (by omega) rfl]
  refine L493 S E B ?_ ?_ ?_ ?_ 13 0 0 0 (by omega) (by omega) rfl rfl
  · exact v_coins S 7 0 0 (by omega) (by omega) rfl
  · exact v_wait S 21 0 0 (by omega) (by omega) rfl
  · rfl
  · exact v_beds S 6 0 0 (by omega) (by omega) rfl
end IS
