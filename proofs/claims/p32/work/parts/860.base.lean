/-! ===== sums of ints that may wrap ===== -/
def sm (f : Nat → Int32) : Nat → Int32
  | 0 => 0
  | n + 1 => sm f n + f n
theorem sm_cg {f f2 : Nat → Int32} : ∀ n, (∀ i, i < n → f2 i = f i) → sm f2 n = sm f n := by
  intro n
  induction n with
  | zero => intro _; rfl
  | succ n ih =>
    intro h
    show sm f2 n + f2 n = sm f n + f n
    rw [ih (fun i hi => h i (by omega)), h n (by omega)]
theorem i32a (a b c d : Int32) : a + (c - b) + d = a + d + (c - b) := by grind
theorem i32b (a b c : Int32) : a + c = a + b + (c - b) := by grind
theorem sm_set {f f2 : Nat → Int32} {x : Nat} : ∀ n, x < n → (∀ i, i < n → i ≠ x → f2 i = f i) → sm f2 n = sm f n + (f2 x - f x) := by
  intro n
  induction n with
  | zero => intro h; exact absurd h (Nat.not_lt_zero x)
  | succ n ih =>
    intro hx h
    show sm f2 n + f2 n = sm f n + f n + (f2 x - f x)
    by_cases e : x = n
    · subst e
      rw [sm_cg x (fun i hi => h i (by omega) (by omega))]
      exact i32b _ _ _
    · rw [ih (by omega) (fun i hi hne => h i (by omega) hne), h n (by omega) (fun z => e z.symm)]
      exact i32a _ _ _ _
theorem sm_0 {f : Nat → Int32} {k : Nat} : ∀ n, (∀ i, k ≤ i → i < n → f i = 0) → k ≤ n → sm f n = sm f k := by
  intro n
  induction n with
  | zero => intro _ hk; have : k = 0 := by omega
            subst this; rfl
  | succ n ih =>
    intro h hk
    by_cases e : k = n + 1
    · subst e; rfl
    · show sm f n + f n = _
      rw [h n (by omega) (by omega), ih (fun i h1 h2 => h i h1 (by omega)) (by omega)]
      exact Int32.add_zero _
/-! ===== numbers that the law draws ===== -/
theorem and_nn (v : Int32) : 0 ≤ (v &&& 2147483647).toInt := by
  show 0 ≤ (v &&& 2147483647).toBitVec.toInt
  have e : (v &&& 2147483647).toBitVec.msb = false := by
    rw [Int32.toBitVec_and, BitVec.msb_and]
    have h : (2147483647 : Int32).toBitVec.msb = false := by decide
    rw [h, Bool.and_false]
  rw [BitVec.toInt_eq_toNat_of_msb e]
  exact Int.natCast_nonneg _
theorem rem_b {a n : Int32} (ha : 0 ≤ a.toInt) (hn : 0 < n.toInt) : 0 ≤ (a - a / n * n).toInt ∧ (a - a / n * n).toInt < n.toInt := by
  have r := ti_rg a
  have d0 : 0 ≤ a.toInt / n.toInt := Int.ediv_nonneg ha (by omega)
  have e1 : a.toInt / n.toInt * n.toInt ≤ a.toInt := Int.ediv_mul_le _ (by omega)
  have e2 : 0 ≤ a.toInt / n.toInt * n.toInt := Int.mul_nonneg d0 (by omega)
  have e3 : a.toInt < (a.toInt / n.toInt + 1) * n.toInt := Int.lt_ediv_add_one_mul_self _ hn
  have e4 : (a.toInt / n.toInt + 1) * n.toInt = a.toInt / n.toInt * n.toInt + n.toInt := by rw [Int.add_mul, Int.one_mul]
  have q1 : (a / n * n).toInt = a.toInt / n.toInt * n.toInt := by
    rw [ti_mul (by rw [ti_div ha hn]; omega) (by rw [ti_div ha hn]; omega), ti_div ha hn]
  rw [ti_sub (by rw [q1]; omega) (by rw [q1]; omega), q1]
  omega
theorem bel_b (v : Int32) {n : Int32} (hn : 0 < n.toInt) : 0 ≤ (fL_below v n).toInt ∧ (fL_below v n).toInt < n.toInt := rem_b (and_nn v) hn
theorem bel_k (v : Int32) {n : Int32} {N : Nat} (hn : n.toInt = N) (h0 : 0 < N) : 0 ≤ (fL_below v n).toInt ∧ (fL_below v n).toInt < N := by
  have := bel_b v (n := n) (by omega)
  omega
theorem lit {n : Nat} (h : n < 2147483648) : (nI n).toInt = n := ti_nI h
/-! ===== the state that whole's pure side keeps ===== -/
def SY (na nb nc nd : Nat) (g : Gd) : Prop := ∃ m, Rl na nb nc nd g m ∧ Iv na nb nc nd m ∧ Tr g
section SYS
variable {na nb nc nd : Nat} {g : Gd}
theorem SY.cnt (h : SY na nb nc nd g) : na ≤ 6 ∧ nb ≤ 20 ∧ nc ≤ 5 ∧ nd ≤ 12 := by obtain ⟨m, h1, h2, h3⟩ := h; exact h2.1
theorem SY.a (h : SY na nb nc nd g) : g 0 0 7 = nI na := by obtain ⟨m, h1, h2, h3⟩ := h; exact h1.a
theorem SY.b (h : SY na nb nc nd g) : g 0 0 8 = nI nb := by obtain ⟨m, h1, h2, h3⟩ := h; exact h1.b
theorem SY.c (h : SY na nb nc nd g) : g 0 0 9 = nI nc := by obtain ⟨m, h1, h2, h3⟩ := h; exact h1.c
theorem SY.d (h : SY na nb nc nd g) : g 0 0 10 = nI nd := by obtain ⟨m, h1, h2, h3⟩ := h; exact h1.d
theorem SY.iv (h : SY na nb nc nd g) : IvC g := by obtain ⟨m, h1, h2, h3⟩ := h; exact ivC_of h1 h2 h3
theorem SY.hr (h : SY na nb nc nd g) : 0 ≤ (g 0 0 0).toInt ∧ (g 0 0 0).toInt ≤ 20000 := by
  obtain ⟨m, h1, h2, h3⟩ := h; rw [h1.s (by decide)]; exact h2.2.1
theorem SY.fa (h : SY na nb nc nd g) {x : Int32} (h0 : 0 ≤ x.toInt) (h1 : x.toInt < na) : fX6_farmAt g x = 0 ∧ fX6_needFarm g x = 0 ∧ x.toNatClampNeg < na := by
  have z := h.cnt
  have e0 : (0 : Int32).toInt = 0 := rfl
  have c1 : ¬ x < 0 := by rw [lt_ti, e0]; omega
  have c2 : x < g 0 0 7 := by rw [h.a, lt_ti, ti_nI (by omega)]; exact h1
  have c3 : fX6_needFarm g x = 0 := by unfold fX6_needFarm; rw [if_neg c1, if_pos c2]
  have := clamp_ti h0
  exact ⟨by unfold fX6_farmAt; rw [if_pos c3], c3, by omega⟩
theorem SY.ba (h : SY na nb nc nd g) {x : Int32} (h0 : 0 ≤ x.toInt) (h1 : x.toInt < nb) : fX6_basketAt g x = 0 ∧ x.toNatClampNeg < nb := by
  have z := h.cnt
  have e0 : (0 : Int32).toInt = 0 := rfl
  have c1 : ¬ x < 0 := by rw [lt_ti, e0]; omega
  have c2 : x < g 0 0 8 := by rw [h.b, lt_ti, ti_nI (by omega)]; exact h1
  have := clamp_ti h0
  exact ⟨by unfold fX6_basketAt; rw [if_neg c1, if_pos c2], by omega⟩
theorem SY.be (h : SY na nb nc nd g) {x : Int32} (h0 : 0 ≤ x.toInt) (h1 : x.toInt < nc) : fX6_bedAt g x = 0 ∧ x.toNatClampNeg < nc := by
  have z := h.cnt
  have e0 : (0 : Int32).toInt = 0 := rfl
  have c1 : ¬ x < 0 := by rw [lt_ti, e0]; omega
  have c2 : x < g 0 0 9 := by rw [h.c, lt_ti, ti_nI (by omega)]; exact h1
  have := clamp_ti h0
  exact ⟨by unfold fX6_bedAt; rw [if_neg c1, if_pos c2], by omega⟩
theorem SY.lo (h : SY na nb nc nd g) {x : Int32} (h0 : 0 ≤ x.toInt) (h1 : x.toInt < nd) : fX6_lotAt g x = 0 ∧ x.toNatClampNeg < nd := by
  have z := h.cnt
  have e0 : (0 : Int32).toInt = 0 := rfl
  have c1 : ¬ x < 0 := by rw [lt_ti, e0]; omega
  have c2 : x < g 0 0 10 := by rw [h.d, lt_ti, ti_nI (by omega)]; exact h1
  have := clamp_ti h0
  exact ⟨by unfold fX6_lotAt; rw [if_neg c1, if_pos c2], by omega⟩
theorem tk_at {g : Gd} {x : Int32} (h0 : 0 ≤ x.toInt) (h1 : x.toInt < (3 : Nat)) : fX6_tankAt g x = 0 ∧ fX6_needTaster g x = 0 ∧ x.toNatClampNeg < 3 := by
  have e0 : (0 : Int32).toInt = 0 := rfl
  have e3 : (3 : Int32).toInt = 3 := rfl
  have c1 : ¬ x < 0 := by rw [lt_ti, e0]; omega
  have c2 : x < 3 := by rw [lt_ti, e3]; omega
  have := clamp_ti h0
  exact ⟨by unfold fX6_tankAt; rw [if_neg c1, if_pos c2], by unfold fX6_needTaster; rw [if_neg c1, if_pos c2], by omega⟩
/-- a row of the mixes, in bounds -/
def mixG (g : Gd) (j : Nat) (K : Int) : Prop :=
  (∀ f, f < 6 → 0 ≤ (g 5 j f).toInt ∧ (g 5 j f).toInt ≤ (g 4 j f).toInt) ∧
  (g 3 j 0).toInt = (g 4 j 0).toInt + (g 4 j 1).toInt + (g 4 j 2).toInt + (g 4 j 3).toInt + (g 4 j 4).toInt + (g 4 j 5).toInt ∧ (g 3 j 0).toInt ≤ K ∧ 0 ≤ (g 3 j 1).toInt ∧ (g 3 j 1).toInt ≤ 100
theorem mixG.of {m : Md} {j r : Nat} {K : Int} (h : ∀ k, k < 23 → cr g j k = m r k) (hm : mixI m r K) : mixG g j K := by
  have e3 : ∀ k, k < 11 → g 3 j k = m r k := fun k hk => (cr_3 hk).symm.trans (h k (by omega))
  have e4 : ∀ f, f < 6 → g 4 j f = m r (11 + f) := fun f hf => (cr_4 hf).symm.trans (h _ (by omega))
  have e5 : ∀ f, f < 6 → g 5 j f = m r (17 + f) := fun f hf => (cr_5 hf).symm.trans (h _ (by omega))
  obtain ⟨h1, h2, h3, h4, h5⟩ := hm
  refine ⟨fun f hf => ?_, ?_, ?_, ?_, ?_⟩
  · rw [e4 f hf, e5 f hf]; exact h1 f hf
  · rw [e3 0 (by decide), e4 0 (by decide), e4 1 (by decide), e4 2 (by decide), e4 3 (by decide), e4 4 (by decide), e4 5 (by decide)]; exact h2
  · rw [e3 0 (by decide)]; exact h3
  · rw [e3 1 (by decide)]; exact h4
  · rw [e3 1 (by decide)]; exact h5
theorem mixG.z {j : Nat} {K : Int} (h : ∀ k, k < 23 → cr g j k = 0) (hK : 0 ≤ K) : mixG g j K := by
  have e0 : (0 : Int32).toInt = 0 := rfl
  have e3 : ∀ k, k < 11 → g 3 j k = 0 := fun k hk => (cr_3 hk).symm.trans (h k (by omega))
  have e4 : ∀ f, f < 6 → g 4 j f = 0 := fun f hf => (cr_4 hf).symm.trans (h _ (by omega))
  have e5 : ∀ f, f < 6 → g 5 j f = 0 := fun f hf => (cr_5 hf).symm.trans (h _ (by omega))
  refine ⟨fun f hf => ?_, ?_, ?_, ?_, ?_⟩
  · rw [e4 f hf, e5 f hf, e0]; omega
  · rw [e3 0 (by decide), e4 0 (by decide), e4 1 (by decide), e4 2 (by decide), e4 3 (by decide), e4 4 (by decide), e4 5 (by decide), e0]; omega
  · rw [e3 0 (by decide), e0]; omega
  · rw [e3 1 (by decide), e0]; omega
  · rw [e3 1 (by decide), e0]; omega
theorem mixG.w {j : Nat} {K K2 : Int} (h : mixG g j K) (hK : K ≤ K2) : mixG g j K2 := ⟨h.1, h.2.1, Int.le_trans h.2.2.1 hK, h.2.2.2⟩
theorem mixG.f6 {j : Nat} {K : Int} (h : mixG g j K) : (0 ≤ (g 4 j 0).toInt ∧ 0 ≤ (g 4 j 1).toInt ∧ 0 ≤ (g 4 j 2).toInt ∧ 0 ≤ (g 4 j 3).toInt ∧ 0 ≤ (g 4 j 4).toInt ∧ 0 ≤ (g 4 j 5).toInt) ∧ 0 ≤ (g 3 j 0).toInt := by
  have h0 := h.1 0 (by decide)
  have h1 := h.1 1 (by decide)
  have h2 := h.1 2 (by decide)
  have h3 := h.1 3 (by decide)
  have h4 := h.1 4 (by decide)
  have h5 := h.1 5 (by decide)
  have e := h.2.1
  omega
theorem SY.tank (h : SY na nb nc nd g) {i : Nat} (hi : i < 3) : mixG g i 300 := by
  obtain ⟨m, h1, h2, h3⟩ := h
  exact mixG.of (fun k hk => h1.tr hi hk) (h2.2.2.2.2.1 i hi).1
theorem SY.bed (h : SY na nb nc nd g) {i : Nat} (hi : i < 5) : mixG g (3 + i) 300 := by
  obtain ⟨m, h1, h2, h3⟩ := h
  by_cases q : i < nc
  · exact mixG.of (fun k hk => h1.br h2 q hk) (h2.2.2.2.2.2.1 i q).1
  · exact mixG.z (fun k hk => by rw [h1.2.2.2.2.2.1 i hi k hk, if_neg q]) (by decide)
theorem SY.lot (h : SY na nb nc nd g) {i : Nat} (hi : i < 12) : mixG g (8 + i) 1800 := by
  obtain ⟨m, h1, h2, h3⟩ := h
  by_cases q : i < nd
  · exact mixG.of (fun k hk => h1.lr h2 q hk) (h2.2.2.2.2.2.2.1 i q).1
  · exact mixG.z (fun k hk => by rw [h1.2.2.2.2.2.2.1 i hi k hk, if_neg q]) (by decide)
theorem SY.lz (h : SY na nb nc nd g) {i : Nat} (hi : i < 12) (q : ¬ i < nd) : ∀ k, k < 23 → cr g (8 + i) k = 0 := by
  obtain ⟨m, h1, h2, h3⟩ := h
  intro k hk
  rw [h1.2.2.2.2.2.2.1 i hi k hk, if_neg q]
theorem SY.bz (h : SY na nb nc nd g) {i : Nat} (hi : i < 5) (q : ¬ i < nc) : ∀ k, k < 23 → cr g (3 + i) k = 0 := by
  obtain ⟨m, h1, h2, h3⟩ := h
  intro k hk
  rw [h1.2.2.2.2.2.1 i hi k hk, if_neg q]
theorem SY.kz (h : SY na nb nc nd g) {i : Nat} (hi : i < 20) (q : ¬ i < nb) : ∀ k, k < 6 → g 2 i k = 0 := by
  obtain ⟨m, h1, h2, h3⟩ := h
  intro k hk
  rw [h1.2.2.2.1 i hi k hk, if_neg q]
theorem SY.fz (h : SY na nb nc nd g) {i : Nat} (hi : i < 6) (q : ¬ i < na) : g 1 i 2 = 0 ∧ g 1 i 3 = 0 := by
  obtain ⟨m, h1, h2, h3⟩ := h
  rw [h1.2.2.1 i hi 2 (by decide), h1.2.2.1 i hi 3 (by decide), if_neg q, if_neg q]
  exact ⟨rfl, rfl⟩
theorem SY.hgt (h : SY na nb nc nd g) {i : Nat} (hi : i < 6) : 0 ≤ (g 1 i 0).toInt ∧ (g 1 i 0).toInt ≤ 22 := by
  obtain ⟨m, h1, h2, h3⟩ := h
  rw [h1.2.2.1 i hi 0 (by decide)]
  by_cases q : i < na
  · rw [if_pos q]; exact h2.2.2.1 i q
  · rw [if_neg q]; decide
theorem SY.bask (h : SY na nb nc nd g) {i : Nat} (hi : i < nb) : (0 ≤ (g 2 i 0).toInt ∧ (g 2 i 0).toInt < na) ∧ (0 ≤ (g 2 i 1).toInt ∧ (g 2 i 1).toInt ≤ 200) ∧ (0 ≤ (g 2 i 2).toInt ∧ (g 2 i 2).toInt ≤ 100) ∧ (g 2 i 5 = 0 ∨ g 2 i 5 = 1) := by
  obtain ⟨m, h1, h2, h3⟩ := h
  have := h2.2.2.2.1 i hi
  rw [h1.ba h2 hi (by decide), h1.ba h2 hi (by decide), h1.ba h2 hi (by decide), h1.ba h2 hi (by decide)]
  exact this
theorem SY.bedv (h : SY na nb nc nd g) {i : Nat} (hi : i < nc) : (5 ≤ (g 3 (3 + i) 8).toInt ∧ (g 3 (3 + i) 8).toInt ≤ 40) ∧ (g 3 (3 + i) 9 = 0 ∨ g 3 (3 + i) 9 = 1) ∧ (g 3 (3 + i) 4 = 0 ∨ g 3 (3 + i) 4 = 1 ∨ g 3 (3 + i) 4 = 2) ∧ (0 ≤ (g 3 (3 + i) 5).toInt ∧ (g 3 (3 + i) 5).toInt ≤ 600) ∧ (0 ≤ (g 3 (3 + i) 7).toInt ∧ (g 3 (3 + i) 7).toInt ≤ 20000) ∧ (g 3 (3 + i) 0 = 0 → g 3 (3 + i) 6 = 0 ∧ g 3 (3 + i) 7 = 0) := by
  obtain ⟨m, h1, h2, h3⟩ := h
  obtain ⟨b1, b2, b3, b4, b5, b6, b7⟩ := h2.2.2.2.2.2.1 i hi
  have hh := h2.2.1
  have e := fun k (hk : k < 11) => h1.b3 h2 hi hk
  rw [e 8 (by decide), e 9 (by decide), e 4 (by decide), e 5 (by decide), e 7 (by decide), e 0 (by decide), e 6 (by decide)]
  exact ⟨b5, b6, b3, ⟨b4.1, b4.2.1⟩, ⟨b4.2.2.1, by have := b4.2.2.2; omega⟩, b7.1⟩
theorem SY.lotv (h : SY na nb nc nd g) {i : Nat} (hi : i < nd) : (0 ≤ (g 3 (8 + i) 3).toInt ∧ (g 3 (8 + i) 3).toInt ≤ 260000) ∧ (g 3 (8 + i) 4 = 0 ∨ g 3 (8 + i) 4 = 1 ∨ g 3 (8 + i) 4 = 2) ∧ (0 ≤ (g 3 (8 + i) 5).toInt ∧ (g 3 (8 + i) 5).toInt ≤ 600) ∧ (0 ≤ (g 3 (8 + i) 7).toInt ∧ (g 3 (8 + i) 7).toInt ≤ 20000) ∧ (0 ≤ (g 3 (8 + i) 2).toInt ∧ (g 3 (8 + i) 2).toInt ≤ 20000) ∧ (g 3 (8 + i) 10 = 0 ∨ g 3 (8 + i) 10 = 1) ∧ (g 3 (8 + i) 10 = 1 → 0 < (g 3 (8 + i) 0).toInt) := by
  obtain ⟨m, h1, h2, h3⟩ := h
  obtain ⟨b1, b2, b3, b4, b5, b6, b7⟩ := h2.2.2.2.2.2.2.1 i hi
  have hh := h2.2.1
  have e := fun k (hk : k < 11) => h1.l3 h2 hi hk
  rw [e 3 (by decide), e 4 (by decide), e 5 (by decide), e 7 (by decide), e 2 (by decide), e 10 (by decide), e 0 (by decide)]
  have q2 := b2.1
  have q3 := b2.2
  have q4 := b4.2.2.2
  have q5 := b5.2
  exact ⟨⟨q2, by omega⟩, b3, ⟨b4.1, b4.2.1⟩, ⟨b4.2.2.1, by omega⟩, ⟨b5.1, by omega⟩, b6, b7⟩
end SYS
/-! ===== reads ===== -/
section RD
variable {g : Gd} {x f : Int32}
theorem rd_farm1 (h : fX6_farmAt g x = 0) : fX6_ofFarm g x 1 = (0, g 1 x.toNatClampNeg 1) := by unfold fX6_ofFarm; rw [if_pos h]; rfl
theorem rd_farm2 (h : fX6_farmAt g x = 0) : fX6_ofFarm g x 2 = (0, g 1 x.toNatClampNeg 2) := by unfold fX6_ofFarm; rw [if_pos h]; rfl
theorem rd_farm3 (h : fX6_farmAt g x = 0) : fX6_ofFarm g x 3 = (0, g 1 x.toNatClampNeg 3) := by unfold fX6_ofFarm; rw [if_pos h]; rfl
theorem rd_farm4 (h : fX6_farmAt g x = 0) : fX6_ofFarm g x 4 = (0, fX6_kilosInStore g x) := by unfold fX6_ofFarm; rw [if_pos h]; rfl
theorem rd_bask1 (h : fX6_basketAt g x = 0) : fX6_ofBasket g x 1 = (0, g 2 x.toNatClampNeg 1) := by unfold fX6_ofBasket; rw [if_pos h]; rfl
theorem rd_bask3 (h : fX6_basketAt g x = 0) : fX6_ofBasket g x 3 = (0, g 2 x.toNatClampNeg 3) := by unfold fX6_ofBasket; rw [if_pos h]; rfl
theorem rd_bask4 (h : fX6_basketAt g x = 0) : fX6_ofBasket g x 4 = (0, g 2 x.toNatClampNeg 4) := by unfold fX6_ofBasket; rw [if_pos h]; rfl
theorem rd_bask5 (h : fX6_basketAt g x = 0) : fX6_ofBasket g x 5 = (0, if g 2 x.toNatClampNeg 5 = 0 then 0 else 1) := by
  unfold fX6_ofBasket; rw [if_pos h]
  show (if g 2 x.toNatClampNeg 5 = 0 then ((0 : Nat), (0 : Int32)) else (0, 1)) = _
  split <;> rfl
theorem rd_tank0 (h : fX6_tankAt g x = 0) : fX6_ofTank g x 0 = (0, g 3 x.toNatClampNeg 0) := by unfold fX6_ofTank; rw [if_pos h]; rfl
theorem rd_tank1 (h : fX6_tankAt g x = 0) : fX6_ofTank g x 1 = (0, g 3 x.toNatClampNeg 1) := by unfold fX6_ofTank; rw [if_pos h]; rfl
theorem rd_tank2 (h : fX6_tankAt g x = 0) : fX6_ofTank g x 2 = (0, g 3 x.toNatClampNeg 2) := by unfold fX6_ofTank; rw [if_pos h]; rfl
theorem rd_tank3 (h : fX6_tankAt g x = 0) : fX6_ofTank g x 3 = (0, g 3 x.toNatClampNeg 3) := by unfold fX6_ofTank; rw [if_pos h]; rfl
theorem rd_tank4 (h : fX6_tankAt g x = 0) : fX6_ofTank g x 4 = (0, fX4_certifiedKilos g x.toNatClampNeg) := by unfold fX6_ofTank; rw [if_pos h]; rfl
theorem rd_bed0 (h : fX6_bedAt g x = 0) : fX6_ofBed g x 0 = (0, g 3 (3 + x.toNatClampNeg) 8) := by unfold fX6_ofBed; rw [if_pos h]; rfl
theorem rd_bed1 (h : fX6_bedAt g x = 0) : fX6_ofBed g x 1 = (0, if g 3 (3 + x.toNatClampNeg) 9 = 0 then 0 else 1) := by
  unfold fX6_ofBed; rw [if_pos h]
  show (if g 3 (3 + x.toNatClampNeg) 9 = 0 then ((0 : Nat), (0 : Int32)) else (0, 1)) = _
  split <;> rfl
theorem rd_bed2 (h : fX6_bedAt g x = 0) : fX6_ofBed g x 2 = (0, g 3 (3 + x.toNatClampNeg) 0) := by unfold fX6_ofBed; rw [if_pos h]; rfl
theorem rd_bed3 (h : fX6_bedAt g x = 0) : fX6_ofBed g x 3 = (0, g 3 (3 + x.toNatClampNeg) 4) := by unfold fX6_ofBed; rw [if_pos h]; rfl
theorem rd_bed4 (h : fX6_bedAt g x = 0) : fX6_ofBed g x 4 = (0, g 3 (3 + x.toNatClampNeg) 5) := by unfold fX6_ofBed; rw [if_pos h]; rfl
theorem rd_bed5 (h : fX6_bedAt g x = 0) : fX6_ofBed g x 5 = (0, g 3 (3 + x.toNatClampNeg) 6) := by unfold fX6_ofBed; rw [if_pos h]; rfl
theorem rd_bed6 (h : fX6_bedAt g x = 0) : fX6_ofBed g x 6 = (0, g 3 (3 + x.toNatClampNeg) 7) := by unfold fX6_ofBed; rw [if_pos h]; rfl
theorem rd_bed7 (h : fX6_bedAt g x = 0) : fX6_ofBed g x 7 = (0, g 3 (3 + x.toNatClampNeg) 3) := by unfold fX6_ofBed; rw [if_pos h]; rfl
theorem rd_lot0 (h : fX6_lotAt g x = 0) : fX6_ofLot g x 0 = (0, g 3 (8 + x.toNatClampNeg) 0) := by unfold fX6_ofLot; rw [if_pos h]; rfl
theorem rd_lot2 (h : fX6_lotAt g x = 0) : fX6_ofLot g x 2 = (0, if g 3 (8 + x.toNatClampNeg) 10 = 0 then 0 else 1) := by
  unfold fX6_ofLot; rw [if_pos h]
  show (if g 3 (8 + x.toNatClampNeg) 10 = 0 then ((0 : Nat), (0 : Int32)) else (0, 1)) = _
  split <;> rfl
theorem rd_lot3 (h : fX6_lotAt g x = 0) : fX6_ofLot g x 3 = (0, fX4_certifiedKilos g (8 + x.toNatClampNeg)) := by unfold fX6_ofLot; rw [if_pos h]; rfl
theorem rd_lot4 (h : fX6_lotAt g x = 0) : fX6_ofLot g x 4 = (0, g 3 (8 + x.toNatClampNeg) 1) := by unfold fX6_ofLot; rw [if_pos h]; rfl
theorem rd_lot7 (h : fX6_lotAt g x = 0) : fX6_ofLot g x 7 = (0, g 3 (8 + x.toNatClampNeg) 5) := by unfold fX6_ofLot; rw [if_pos h]; rfl
theorem rd_lot9 (h : fX6_lotAt g x = 0) : fX6_ofLot g x 9 = (0, fX3_grade g x.toNatClampNeg) := by unfold fX6_ofLot; rw [if_pos h]; rfl
theorem rd_lot10 (h : fX6_lotAt g x = 0) : fX6_ofLot g x 10 = (0, if g 3 (8 + x.toNatClampNeg) 0 = 0 then 0 else fX3_score g x.toNatClampNeg) := by
  unfold fX6_ofLot; rw [if_pos h]
  show (if fX4_isEmpty (g 3 (8 + x.toNatClampNeg) 0) = 0 then ((0 : Nat), fX3_score g x.toNatClampNeg) else (0, 0)) = _
  unfold fX4_isEmpty
  by_cases c : g 3 (8 + x.toNatClampNeg) 0 = 0
  · rw [if_pos c, if_pos c]; rfl
  · rw [if_neg c, if_neg c]; rfl
theorem rd_lot11 (h : fX6_lotAt g x = 0) : fX6_ofLot g x 11 = (0, if g 3 (8 + x.toNatClampNeg) 0 = 0 then 0 else fX3_cause g x.toNatClampNeg) := by
  unfold fX6_ofLot; rw [if_pos h]
  show (if fX4_isEmpty (g 3 (8 + x.toNatClampNeg) 0) = 0 then ((0 : Nat), fX3_cause g x.toNatClampNeg) else (0, 0)) = _
  unfold fX4_isEmpty
  by_cases c : g 3 (8 + x.toNatClampNeg) 0 = 0
  · rw [if_pos c, if_pos c]; rfl
  · rw [if_neg c, if_neg c]; rfl
theorem rd_kilos (h : fX6_lotAt g x = 0) (h2 : fX6_needFarm g f = 0) : fX6_kilosOf g x f = (0, g 4 (8 + x.toNatClampNeg) f.toNatClampNeg) := by unfold fX6_kilosOf; rw [if_pos h, if_pos h2]
theorem rd_m0 : fX6_many g 0 = (0, g 0 0 0) := rfl
theorem rd_m2 : fX6_many g 2 = (0, g 0 0 8) := rfl
theorem rd_m4 : fX6_many g 4 = (0, g 0 0 10) := rfl
theorem rd_m6 : fX6_many g 6 = (0, g 0 0 1) := rfl
theorem rd_m15 : fX6_many g 15 = (0, fX6_allCoins g) := rfl
end RD
