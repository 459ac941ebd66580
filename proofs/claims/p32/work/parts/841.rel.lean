/-! ===== the two grids side by side ===== -/
theorem all23 {P : Nat → Prop} (h0 : P 0) (h1 : P 1) (h2 : P 2) (h3 : P 3) (h4 : P 4) (h5 : P 5) (h6 : P 6) (h7 : P 7) (h8 : P 8) (h9 : P 9) (h10 : P 10) (h11 : P 11) (h12 : P 12) (h13 : P 13) (h14 : P 14) (h15 : P 15) (h16 : P 16) (h17 : P 17) (h18 : P 18) (h19 : P 19) (h20 : P 20) (h21 : P 21) (h22 : P 22) : ∀ k, k < 23 → P k := fun k hk => match k, hk with
  | 0, _ => h0
  | 1, _ => h1
  | 2, _ => h2
  | 3, _ => h3
  | 4, _ => h4
  | 5, _ => h5
  | 6, _ => h6
  | 7, _ => h7
  | 8, _ => h8
  | 9, _ => h9
  | 10, _ => h10
  | 11, _ => h11
  | 12, _ => h12
  | 13, _ => h13
  | 14, _ => h14
  | 15, _ => h15
  | 16, _ => h16
  | 17, _ => h17
  | 18, _ => h18
  | 19, _ => h19
  | 20, _ => h20
  | 21, _ => h21
  | 22, _ => h22
  | n + 23, h => absurd h (by omega)
/-- a row of the class's mixes, as the reference numbers it -/
def cr (g : Gd) (j k : Nat) : Int32 := if k < 11 then g 3 j k else if k < 17 then g 4 j (k - 11) else g 5 j (k - 17)
theorem cr_3 {g : Gd} {j k : Nat} (h : k < 11) : cr g j k = g 3 j k := if_pos h
theorem cr_4 {g : Gd} {j f : Nat} (h : f < 6) : cr g j (11 + f) = g 4 j f := by
  unfold cr
  rw [if_neg (by omega), if_pos (by omega), Nat.add_sub_cancel_left]
theorem cr_5 {g : Gd} {j f : Nat} (h : f < 6) : cr g j (17 + f) = g 5 j f := by
  unfold cr
  rw [if_neg (by omega), if_neg (by omega), Nat.add_sub_cancel_left]
def Rl (na nb nc nd : Nat) (g : Gd) (m : Md) : Prop :=
  (∀ k, k < 7 → g 0 0 k = m 0 k) ∧
  (g 0 0 7 = nI na ∧ g 0 0 8 = nI nb ∧ g 0 0 9 = nI nc ∧ g 0 0 10 = nI nd) ∧
  (∀ i, i < 6 → ∀ k, k < 4 → g 1 i k = if i < na then m (100 + i) k else if k = 1 then -1 else 0) ∧
  (∀ i, i < 20 → ∀ k, k < 6 → g 2 i k = if i < nb then m (200 + i) k else 0) ∧
  (∀ i, i < 3 → ∀ k, k < 23 → cr g i k = m (300 + i) k) ∧
  (∀ i, i < 5 → ∀ k, k < 23 → cr g (3 + i) k = if i < nc then m (303 + i) k else 0) ∧
  (∀ i, i < 12 → ∀ k, k < 23 → cr g (8 + i) k = if i < nd then m (308 + i) k else 0) ∧
  (∀ i, i < 12 → ∀ k, k < 3 → g 6 i k = if i < nd then m (340 + i) k else -1) ∧
  (∀ k, k < 3 → g 7 0 k = m 360 k)
def mixI (m : Md) (r : Nat) (K : Int) : Prop :=
  (∀ f, f < 6 → 0 ≤ (m r (17 + f)).toInt ∧ (m r (17 + f)).toInt ≤ (m r (11 + f)).toInt) ∧
  (m r 0).toInt = (m r 11).toInt + (m r 12).toInt + (m r 13).toInt + (m r 14).toInt + (m r 15).toInt + (m r 16).toInt ∧ (m r 0).toInt ≤ K ∧ 0 ≤ (m r 1).toInt ∧ (m r 1).toInt ≤ 100
def ptI (m : Md) (r : Nat) : Prop := 0 ≤ (m r 3).toInt ∧ (m r 3).toInt ≤ 13 * (m 0 0).toInt
def tankI (m : Md) (i : Nat) : Prop := mixI m (300 + i) 300 ∧ ptI m (300 + i) ∧ m (300 + i) 4 = 0 ∧ m (300 + i) 5 = 0 ∧ m (300 + i) 6 = 0 ∧ m (300 + i) 7 = 0 ∧ m (300 + i) 10 = 0
def mtI (m : Md) (r : Nat) : Prop := m r 4 = 0 ∨ m r 4 = 1 ∨ m r 4 = 2
def moI (m : Md) (r : Nat) : Prop := 0 ≤ (m r 5).toInt ∧ (m r 5).toInt ≤ 600 ∧ 0 ≤ (m r 7).toInt ∧ (m r 7).toInt ≤ (m 0 0).toInt
def bedI (m : Md) (i : Nat) : Prop := mixI m (303 + i) 300 ∧ ptI m (303 + i) ∧ mtI m (303 + i) ∧ moI m (303 + i) ∧ (5 ≤ (m (303 + i) 8).toInt ∧ (m (303 + i) 8).toInt ≤ 40) ∧ (m (303 + i) 9 = 0 ∨ m (303 + i) 9 = 1) ∧ (m (303 + i) 0 = 0 → m (303 + i) 6 = 0 ∧ m (303 + i) 7 = 0) ∧ m (303 + i) 2 = 0 ∧ m (303 + i) 10 = 0
def lotI (m : Md) (i : Nat) : Prop := mixI m (308 + i) 1800 ∧ ptI m (308 + i) ∧ mtI m (308 + i) ∧ moI m (308 + i) ∧ (0 ≤ (m (308 + i) 2).toInt ∧ (m (308 + i) 2).toInt ≤ (m 0 0).toInt) ∧ (m (308 + i) 10 = 0 ∨ m (308 + i) 10 = 1) ∧ (m (308 + i) 10 = 1 → 0 < (m (308 + i) 0).toInt)
def baskI (na : Nat) (m : Md) (i : Nat) : Prop := (0 ≤ (m (200 + i) 0).toInt ∧ (m (200 + i) 0).toInt < na) ∧ (0 ≤ (m (200 + i) 1).toInt ∧ (m (200 + i) 1).toInt ≤ 200) ∧ (0 ≤ (m (200 + i) 2).toInt ∧ (m (200 + i) 2).toInt ≤ 100) ∧ (m (200 + i) 5 = 0 ∨ m (200 + i) 5 = 1)
def sumF (f : Nat → Int) : Nat → Int
  | 0 => 0
  | n + 1 => sumF f n + f n
def kiL (m : Md) (i : Nat) : Int := (m (308 + i) 0).toInt
def Iv (na nb nc nd : Nat) (m : Md) : Prop :=
  (na ≤ 6 ∧ nb ≤ 20 ∧ nc ≤ 5 ∧ nd ≤ 12) ∧ (0 ≤ (m 0 0).toInt ∧ (m 0 0).toInt ≤ 20000) ∧
  (∀ i, i < na → 0 ≤ (m (100 + i) 0).toInt ∧ (m (100 + i) 0).toInt ≤ 22) ∧
  (∀ i, i < nb → baskI na m i) ∧ (∀ i, i < 3 → tankI m i) ∧ (∀ i, i < nc → bedI m i) ∧ (∀ i, i < nd → lotI m i) ∧ sumF (kiL m) nd ≤ 150 * nd
/-- the class's trial lot -/
def Tr (g : Gd) : Prop := 0 ≤ (g 3 20 0).toInt ∧ (g 3 20 0).toInt ≤ 4000
section RL
variable {na nb nc nd : Nat} {g : Gd} {m : Md}
theorem Rl.s (h : Rl na nb nc nd g m) {k : Nat} (hk : k < 7) : g 0 0 k = m 0 k := h.1 k hk
theorem Rl.a (h : Rl na nb nc nd g m) : g 0 0 7 = nI na := h.2.1.1
theorem Rl.b (h : Rl na nb nc nd g m) : g 0 0 8 = nI nb := h.2.1.2.1
theorem Rl.c (h : Rl na nb nc nd g m) : g 0 0 9 = nI nc := h.2.1.2.2.1
theorem Rl.d (h : Rl na nb nc nd g m) : g 0 0 10 = nI nd := h.2.1.2.2.2
theorem Rl.fa (h : Rl na nb nc nd g m) (hI : Iv na nb nc nd m) {i k : Nat} (hi : i < na) (hk : k < 4) : g 1 i k = m (100 + i) k := by
  have := hI.1.1
  rw [h.2.2.1 i (by omega) k hk, if_pos hi]
theorem Rl.ba (h : Rl na nb nc nd g m) (hI : Iv na nb nc nd m) {i k : Nat} (hi : i < nb) (hk : k < 6) : g 2 i k = m (200 + i) k := by
  have := hI.1.2.1
  rw [h.2.2.2.1 i (by omega) k hk, if_pos hi]
theorem Rl.tr (h : Rl na nb nc nd g m) {i k : Nat} (hi : i < 3) (hk : k < 23) : cr g i k = m (300 + i) k := h.2.2.2.2.1 i hi k hk
theorem Rl.br (h : Rl na nb nc nd g m) (hI : Iv na nb nc nd m) {i k : Nat} (hi : i < nc) (hk : k < 23) : cr g (3 + i) k = m (303 + i) k := by
  have := hI.1.2.2.1
  rw [h.2.2.2.2.2.1 i (by omega) k hk, if_pos hi]
theorem Rl.lr (h : Rl na nb nc nd g m) (hI : Iv na nb nc nd m) {i k : Nat} (hi : i < nd) (hk : k < 23) : cr g (8 + i) k = m (308 + i) k := by
  have := hI.1.2.2.2
  rw [h.2.2.2.2.2.2.1 i (by omega) k hk, if_pos hi]
theorem Rl.rd (h : Rl na nb nc nd g m) (hI : Iv na nb nc nd m) {i k : Nat} (hi : i < nd) (hk : k < 3) : g 6 i k = m (340 + i) k := by
  have := hI.1.2.2.2
  rw [h.2.2.2.2.2.2.2.1 i (by omega) k hk, if_pos hi]
theorem Rl.bi (h : Rl na nb nc nd g m) {k : Nat} (hk : k < 3) : g 7 0 k = m 360 k := h.2.2.2.2.2.2.2.2 k hk
theorem Rl.t3 (h : Rl na nb nc nd g m) {i k : Nat} (hi : i < 3) (hk : k < 11) : g 3 i k = m (300 + i) k := (cr_3 hk).symm.trans (h.tr hi (by omega))
theorem Rl.t4 (h : Rl na nb nc nd g m) {i f : Nat} (hi : i < 3) (hf : f < 6) : g 4 i f = m (300 + i) (11 + f) := (cr_4 hf).symm.trans (h.tr hi (by omega))
theorem Rl.t5 (h : Rl na nb nc nd g m) {i f : Nat} (hi : i < 3) (hf : f < 6) : g 5 i f = m (300 + i) (17 + f) := (cr_5 hf).symm.trans (h.tr hi (by omega))
theorem Rl.b3 (h : Rl na nb nc nd g m) (hI : Iv na nb nc nd m) {i k : Nat} (hi : i < nc) (hk : k < 11) : g 3 (3 + i) k = m (303 + i) k := (cr_3 hk).symm.trans (h.br hI hi (by omega))
theorem Rl.b4 (h : Rl na nb nc nd g m) (hI : Iv na nb nc nd m) {i f : Nat} (hi : i < nc) (hf : f < 6) : g 4 (3 + i) f = m (303 + i) (11 + f) := (cr_4 hf).symm.trans (h.br hI hi (by omega))
theorem Rl.b5 (h : Rl na nb nc nd g m) (hI : Iv na nb nc nd m) {i f : Nat} (hi : i < nc) (hf : f < 6) : g 5 (3 + i) f = m (303 + i) (17 + f) := (cr_5 hf).symm.trans (h.br hI hi (by omega))
theorem Rl.l3 (h : Rl na nb nc nd g m) (hI : Iv na nb nc nd m) {i k : Nat} (hi : i < nd) (hk : k < 11) : g 3 (8 + i) k = m (308 + i) k := (cr_3 hk).symm.trans (h.lr hI hi (by omega))
theorem Rl.l4 (h : Rl na nb nc nd g m) (hI : Iv na nb nc nd m) {i f : Nat} (hi : i < nd) (hf : f < 6) : g 4 (8 + i) f = m (308 + i) (11 + f) := (cr_4 hf).symm.trans (h.lr hI hi (by omega))
theorem Rl.l5 (h : Rl na nb nc nd g m) (hI : Iv na nb nc nd m) {i f : Nat} (hi : i < nd) (hf : f < 6) : g 5 (8 + i) f = m (308 + i) (17 + f) := (cr_5 hf).symm.trans (h.lr hI hi (by omega))
theorem mixI.k {r : Nat} {K : Int} (h : mixI m r K) {f : Nat} (hf : f < 6) : 0 ≤ (m r (11 + f)).toInt := by have := h.1 f hf; omega
theorem mixI.k0 {r : Nat} {K : Int} (h : mixI m r K) : 0 ≤ (m r 0).toInt ∧ (m r 0).toInt ≤ K := by
  have h0 := h.k (f := 0) (by decide)
  have h1 := h.k (f := 1) (by decide)
  have h2 := h.k (f := 2) (by decide)
  have h3 := h.k (f := 3) (by decide)
  have h4 := h.k (f := 4) (by decide)
  have h5 := h.k (f := 5) (by decide)
  have e := h.2.1
  simp only [Nat.reduceAdd] at h0 h1 h2 h3 h4 h5
  exact ⟨by omega, h.2.2.1⟩
theorem mixI.kle {r : Nat} {K : Int} (h : mixI m r K) {f : Nat} (hf : f < 6) : (m r (11 + f)).toInt ≤ (m r 0).toInt := by
  have h0 := h.k (f := 0) (by decide)
  have h1 := h.k (f := 1) (by decide)
  have h2 := h.k (f := 2) (by decide)
  have h3 := h.k (f := 3) (by decide)
  have h4 := h.k (f := 4) (by decide)
  have h5 := h.k (f := 5) (by decide)
  have e := h.2.1
  simp only [Nat.reduceAdd] at h0 h1 h2 h3 h4 h5
  match f, hf with
  | 0, _ => simp only [Nat.reduceAdd]; omega
  | 1, _ => simp only [Nat.reduceAdd]; omega
  | 2, _ => simp only [Nat.reduceAdd]; omega
  | 3, _ => simp only [Nat.reduceAdd]; omega
  | 4, _ => simp only [Nat.reduceAdd]; omega
  | 5, _ => simp only [Nat.reduceAdd]; omega
/-- the class's own conditions -/
theorem ivC_of (h : Rl na nb nc nd g m) (hI : Iv na nb nc nd m) (hT : Tr g) : IvC g := by
  obtain ⟨⟨z1, z2, z3, z4⟩, hh, i1, i2, i3, i4, i5, i6⟩ := id hI
  have n1 : (nI na).toInt = na := ti_nI (by omega)
  have n2 : (nI nb).toInt = nb := ti_nI (by omega)
  have n3 : (nI nc).toInt = nc := ti_nI (by omega)
  have n4 : (nI nd).toInt = nd := ti_nI (by omega)
  refine ⟨?_, ?_, ?_, ?_, fun b hb => ?_, fun i hi => ?_, fun i hi hne => ?_, fun i hi => ?_⟩
  · rw [h.a, n1]; omega
  · rw [h.b, n2]; omega
  · rw [h.c, n3]; omega
  · rw [h.d, n4]; omega
  · rw [h.2.2.2.1 b hb 0 (by decide)]
    by_cases q : b < nb
    · rw [if_pos q]
      have := i2 b q
      exact in_ti this.1.1 (by have := this.1.2; omega)
    · rw [if_neg q]; exact in_ti (by decide) (by decide)
  · unfold fX1_depth
    by_cases q : i < nc
    · rw [h.b3 hI q (by decide), h.b3 hI q (by decide)]
      have b := i4 i q
      have ha := b.2.2.2.2.1
      have hk := b.1.k0
      have e0 : (0 : Int32).toInt = 0 := rfl
      rw [if_neg (by rw [le_ti, e0]; omega)]
      have e1 := ti_div (a := m (303 + i) 0) (b := m (303 + i) 8) hk.1 (by omega)
      have e2 : (m (303 + i) 0).toInt / (m (303 + i) 8).toInt ≤ (m (303 + i) 0).toInt := Int.ediv_le_self _ hk.1
      have e3 : 0 ≤ (m (303 + i) 0).toInt / (m (303 + i) 8).toInt := Int.ediv_nonneg hk.1 (by omega)
      have e4 : (10 : Int32).toInt = 10 := rfl
      intro e
      have e5 := congrArg Int32.toInt e
      rw [ti_add (by rw [e1, e4]; omega) (by rw [e1, e4]; omega), e1, e4, e0] at e5
      omega
    · have h8 := h.2.2.2.2.2.1 i hi 8 (by decide)
      rw [if_neg q, cr_3 (by decide)] at h8
      rw [h8, if_pos (by decide)]
      decide
  · have key : 0 ≤ (g 3 (8 + i) 0).toInt ∧ (g 3 (8 + i) 0).toInt ≤ 4000 := by
      by_cases q : i < nd
      · rw [h.l3 hI q (by decide)]
        have := (i5 i q).1.k0
        omega
      · by_cases q2 : i < 12
        · have h0 := h.2.2.2.2.2.2.1 i q2 0 (by decide)
          rw [if_neg q, cr_3 (by decide)] at h0
          rw [h0]; decide
        · have : i = 12 := by omega
          subst this
          exact hT
    intro e
    have e0 : (0 : Int32).toInt = 0 := rfl
    have e4 : (5 : Int32).toInt = 5 := rfl
    have e5 := congrArg Int32.toInt e
    rw [ti_mul (by rw [e4]; omega) (by rw [e4]; omega), e4, e0] at e5
    apply hne
    rw [le_ti, e0]; omega
  · have h9 := h.2.2.2.2.2.1 i hi 9 (by decide)
    rw [cr_3 (by decide)] at h9
    rw [h9]
    by_cases q : i < nc
    · rw [if_pos q]; exact (i4 i q).2.2.2.2.2.1
    · rw [if_neg q]; exact Or.inl rfl
end RL
/-- only a row of the mixes has changed -/
def only3 (g g2 : Gd) (j : Nat) : Prop := ∀ t i k, ¬ (3 ≤ t ∧ t ≤ 5 ∧ i = j) → g2 t i k = g t i k
theorem only3.row {g g2 : Gd} {j i k : Nat} (h : only3 g g2 j) (hi : i ≠ j) : cr g2 i k = cr g i k := by
  unfold cr
  rw [h 3 i k (fun z => hi z.2.2), h 4 i (k - 11) (fun z => hi z.2.2), h 5 i (k - 17) (fun z => hi z.2.2)]
theorem only3.trans9 {a b c : Gd} {j : Nat} (h : only3 a b j) (h2 : only3 b c j) : only3 a c j := fun t i k q => (h2 t i k q).trans (h t i k q)
theorem only3.rf {a : Gd} {j : Nat} : only3 a a j := fun _ _ _ _ => rfl
theorem only3.upd {a b : Gd} {j t k : Nat} {v : Int32} (h : only3 a b j) (h1 : 3 ≤ t) (h2 : t ≤ 5) : only3 a (up b t j k v) j := fun t' i k' q => (up_ne (fun z => q ⟨by omega, by omega, z.2.1⟩)).trans (h t' i k' q)
theorem addMix_cr (g : Gd) (j o : Nat) : ∀ k, k < 23 → cr (fX4_addMix g j o) j k = if k = 1 then fX6_meanByKilos (g 3 j 0) (g 3 j 1) (g 3 o 0) (g 3 o 1) else if k = 0 ∨ 11 ≤ k then cr g j k + cr g o k else cr g j k := by
  refine all23 ?_ ?_ ?_ ?_ ?_ ?_ ?_ ?_ ?_ ?_ ?_ ?_ ?_ ?_ ?_ ?_ ?_ ?_ ?_ ?_ ?_ ?_ ?_ <;> simp [cr, up, fX4_addMix]
theorem clear_cr (g : Gd) (j : Nat) : ∀ k, k < 23 → cr (fX4_clear g j) j k = if k = 1 ∨ k = 0 ∨ 11 ≤ k then 0 else cr g j k := by
  refine all23 ?_ ?_ ?_ ?_ ?_ ?_ ?_ ?_ ?_ ?_ ?_ ?_ ?_ ?_ ?_ ?_ ?_ ?_ ?_ ?_ ?_ ?_ ?_ <;> simp [cr, up, fX4_clear]
theorem addMix_o (g : Gd) (j o : Nat) : only3 g (fX4_addMix g j o) j := by
  unfold fX4_addMix
  repeat (first | exact only3.rf | refine only3.upd ?_ (by decide) (by decide))
theorem clear_o (g : Gd) (j : Nat) : only3 g (fX4_clear g j) j := by
  unfold fX4_clear
  repeat (first | exact only3.rf | refine only3.upd ?_ (by decide) (by decide))
theorem come_at (a b c d t : Nat) (m : Md) (r o : Nat) : ∀ k, k < 23 → fX7_come a b c d t m r o r k = if k = 1 then fX7_mean (m r 0) (m r 1) (m o 0) (m o 1) else if k = 0 ∨ 11 ≤ k then m r k + m o k else m r k := by
  refine all23 ?_ ?_ ?_ ?_ ?_ ?_ ?_ ?_ ?_ ?_ ?_ ?_ ?_ ?_ ?_ ?_ ?_ ?_ ?_ ?_ ?_ ?_ ?_ <;> simp [fX7_come, u2]
theorem empty_at (a b c d t : Nat) (m : Md) (r : Nat) : ∀ k, k < 23 → fX7_empty a b c d t m r r k = if k = 8 ∨ k = 9 then m r k else 0 := by
  refine all23 ?_ ?_ ?_ ?_ ?_ ?_ ?_ ?_ ?_ ?_ ?_ ?_ ?_ ?_ ?_ ?_ ?_ ?_ ?_ ?_ ?_ ?_ ?_ <;> simp [fX7_empty, u2]
theorem empty_nr {a b c d t : Nat} {m : Md} {r r2 k : Nat} (h : r2 ≠ r) : fX7_empty a b c d t m r r2 k = m r2 k := by
  unfold fX7_empty
  simp only [u2_nr h]
theorem mean_eq {x v y u : Int32} (h : ¬ x + y ≤ 0) : fX6_meanByKilos x v y u = fX7_mean x v y u := by
  unfold fX6_meanByKilos fX7_mean
  exact if_neg h
/-- the class's mix that comes to a mix, and the reference's -/
theorem come_eq {a b c d t : Nat} {g : Gd} {m : Md} {j o r p : Nat} (h1 : ∀ k, k < 23 → cr g j k = m r k) (h2 : ∀ k, k < 23 → cr g o k = m p k) (hk : ¬ m r 0 + m p 0 ≤ 0) : ∀ k, k < 23 → cr (fX4_addMix g j o) j k = fX7_come a b c d t m r p r k := by
  intro k hk9
  have e0 : g 3 j 0 = m r 0 := h1 0 (by decide)
  have e1 : g 3 j 1 = m r 1 := h1 1 (by decide)
  have e2 : g 3 o 0 = m p 0 := h2 0 (by decide)
  have e3 : g 3 o 1 = m p 1 := h2 1 (by decide)
  rw [addMix_cr g j o k hk9, come_at a b c d t m r p k hk9, h1 k hk9, h2 k hk9, e0, e1, e2, e3, mean_eq hk]
