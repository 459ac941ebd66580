/-! ===== what is read of a lot: the class's answers are the reference's ===== -/
theorem p64 : ((2 ^ 64 : Nat) : Int) = 18446744073709551616 := rfl
theorem bm64 {x : Int} (h1 : -9223372036854775808 ≤ x) (h2 : x < 9223372036854775808) : x.bmod (2 ^ 64) = x := by
  rw [Int.bmod_def]
  have := p64
  omega
theorem tl_mul {a b : Int64} (h1 : -9223372036854775808 ≤ a.toInt * b.toInt) (h2 : a.toInt * b.toInt < 9223372036854775808) : (a * b).toInt = a.toInt * b.toInt := by
  rw [Int64.toInt_mul]; exact bm64 h1 h2
theorem tl_add {a b : Int64} (h1 : -9223372036854775808 ≤ a.toInt + b.toInt) (h2 : a.toInt + b.toInt < 9223372036854775808) : (a + b).toInt = a.toInt + b.toInt := by
  rw [Int64.toInt_add]; exact bm64 h1 h2
theorem tl_div {a b : Int64} (ha : 0 ≤ a.toInt) (hb : 0 < b.toInt) (hlt : a.toInt < 9223372036854775808) : (a / b).toInt = a.toInt / b.toInt := by
  rw [Int64.toInt_div, Int.tdiv_eq_ediv_of_nonneg ha]
  have h1 : 0 ≤ a.toInt / b.toInt := Int.ediv_nonneg ha (by omega)
  have h2 : a.toInt / b.toInt ≤ a.toInt := Int.ediv_le_self _ ha
  exact bm64 (by omega) (by omega)
section RD
variable {na nb nc nd T : Nat} {g : Gd} {m : Md}
theorem ferment_eq {p : Int32} : (if 60 ≤ p then (if p ≤ 100 then (0 : Int32) else (p - 100) / 5) else (60 - p) / 5) = (if 60 ≤ p then ((if 0 < p - 100 then p - 100 else 0) / 5) else (60 - p) / 5) := by
  by_cases h : 60 ≤ p
  · rw [if_pos h, if_pos h]
    have e60 : (60 : Int32).toInt = 60 := rfl
    have e100 : (100 : Int32).toInt = 100 := rfl
    have e0 : (0 : Int32).toInt = 0 := rfl
    have r := ti_rg p
    rw [le_ti, e60] at h
    have e : (p - 100).toInt = p.toInt - 100 := by rw [ti_sub (by rw [e100]; omega) (by rw [e100]; omega), e100]
    by_cases q : p ≤ 100
    · rw [if_pos q, if_neg (by rw [lt_ti, e0, e]; rw [le_ti, e100] at q; omega)]; rfl
    · rw [if_neg q, if_pos (by rw [lt_ti, e0, e]; rw [le_ti, e100] at q; omega)]
  · rw [if_neg h, if_neg h]
theorem moist_eq {p : Int32} (h0 : 0 ≤ p.toInt) : (if p ≤ 125 then (if 95 ≤ p then (0 : Int32) else (95 - p) / 5) else (p - 125) / 10) = (if p ≤ 125 then ((if 0 < 95 - p then 95 - p else 0) / 5) else (p - 125) / 10) := by
  by_cases h : p ≤ 125
  · rw [if_pos h, if_pos h]
    have e95 : (95 : Int32).toInt = 95 := rfl
    have e0 : (0 : Int32).toInt = 0 := rfl
    have r := ti_rg p
    have e : (95 - p).toInt = 95 - p.toInt := by rw [ti_sub (by rw [e95]; omega) (by rw [e95]; omega), e95]
    by_cases q : 95 ≤ p
    · rw [if_pos q, if_neg (by rw [lt_ti, e0, e]; rw [le_ti, e95] at q; omega)]; rfl
    · rw [if_neg q, if_pos (by rw [lt_ti, e0, e]; rw [le_ti, e95] at q; omega)]
  · rw [if_neg h, if_neg h]
theorem fault_eq {i r : Nat} (h : ∀ k, k < 23 → cr g (8 + i) k = m r k) (hm : 0 ≤ (m r 5).toInt) (x : Int32) : fX3_fault g i x = fX7_fault na nb nc nd T m r x := by
  have e1 : g 3 (8 + i) 1 = m r 1 := h 1 (by decide)
  have e2 : g 3 (8 + i) 2 = m r 2 := h 2 (by decide)
  have e3 : g 3 (8 + i) 3 = m r 3 := h 3 (by decide)
  have e4 : g 3 (8 + i) 4 = m r 4 := h 4 (by decide)
  have e5 : g 3 (8 + i) 5 = m r 5 := h 5 (by decide)
  have e7 : g 3 (8 + i) 7 = m r 7 := h 7 (by decide)
  unfold fX3_fault fX3_fermentFault fX3_moistureFault fX7_fault
  rw [e1, e2, e3, e4, e5, e7, ferment_eq, moist_eq hm, Int32.mul_comm 2, Int32.mul_one]
theorem height_eq {j r : Nat} (h : ∀ k, k < 23 → cr g j k = m r k) (hf : ∀ f, f < 6 → g 1 f 0 = if f < na then m (100 + f) 0 else 0) (hna : na ≤ 6) : ((((((0 + (g 4 j 0) * (g 1 0 0)) + (g 4 j 1) * (g 1 1 0)) + (g 4 j 2) * (g 1 2 0)) + (g 4 j 3) * (g 1 3 0)) + (g 4 j 4) * (g 1 4 0)) + (g 4 j 5) * (g 1 5 0)) = fX7_scoreOf_L12 na nb nc nd T m r na 0 0 := by
  have k0 : g 4 j 0 = m r 11 := h 11 (by decide)
  have k1 : g 4 j 1 = m r 12 := h 12 (by decide)
  have k2 : g 4 j 2 = m r 13 := h 13 (by decide)
  have k3 : g 4 j 3 = m r 14 := h 14 (by decide)
  have k4 : g 4 j 4 = m r 15 := h 15 (by decide)
  have k5 : g 4 j 5 = m r 16 := h 16 (by decide)
  rw [k0, k1, k2, k3, k4, k5, hf 0 (by decide), hf 1 (by decide), hf 2 (by decide), hf 3 (by decide), hf 4 (by decide), hf 5 (by decide)]
  match na, hna with
  | 0, _ => simp [fX7_scoreOf_L12]
  | 1, _ => simp [fX7_scoreOf_L12]
  | 2, _ => simp [fX7_scoreOf_L12]
  | 3, _ => simp [fX7_scoreOf_L12]
  | 4, _ => simp [fX7_scoreOf_L12]
  | 5, _ => simp [fX7_scoreOf_L12]
  | 6, _ => simp [fX7_scoreOf_L12]
  | n + 7, q => exact absurd q (by omega)
theorem score_eq {i r : Nat} (h : ∀ k, k < 23 → cr g (8 + i) k = m r k) (hf : ∀ f, f < 6 → g 1 f 0 = if f < na then m (100 + f) 0 else 0) (hna : na ≤ 6) (hm : 0 ≤ (m r 5).toInt) (hk : 0 < (m r 0).toInt) (ht : mtI m r) : fX3_score g i = fX7_scoreOf na nb nc nd T m r := by
  have e0 : g 3 (8 + i) 0 = m r 0 := h 0 (by decide)
  have e4 : g 3 (8 + i) 4 = m r 4 := h 4 (by decide)
  have z : (0 : Int32).toInt = 0 := rfl
  have hh : fX4_height g (8 + i) = fX7_scoreOf_L12 na nb nc nd T m r na 0 0 / m r 0 := by
    unfold fX4_height
    rw [height_eq (nb := nb) (nc := nc) (nd := nd) (T := T) h hf hna, e0, if_neg (by rw [le_ti, z]; omega)]
  unfold fX3_score fX7_scoreOf
  rw [if_neg (fun e => by rw [e, z] at hk; omega : ¬ m r 0 = 0), hh, e4]
  simp only [fault_eq (na := na) (nb := nb) (nc := nc) (nd := nd) (T := T) h hm]
  rcases ht with q | q | q <;> rw [q]
  · rw [if_neg (by decide), if_neg (by decide), Int32.add_zero]
  · rw [if_pos rfl]
  · rw [if_neg (by decide), if_pos rfl]
theorem cause_eq {i r : Nat} (h : ∀ k, k < 23 → cr g (8 + i) k = m r k) (hm : 0 ≤ (m r 5).toInt) (hk : ¬ m r 0 = 0) : fX3_cause g i = fX7_causeOf na nb nc nd T m r := by
  unfold fX3_cause fX7_causeOf
  rw [if_neg hk]
  simp only [fault_eq (na := na) (nb := nb) (nc := nc) (nd := nd) (T := T) h hm]
  generalize fX7_fault na nb nc nd T m r 1 = a
  generalize fX7_fault na nb nc nd T m r 2 = b
  generalize fX7_fault na nb nc nd T m r 3 = c
  generalize fX7_fault na nb nc nd T m r 4 = d
  generalize fX7_fault na nb nc nd T m r 5 = e
  simp only [← Int32.not_lt, ite_not]
theorem cert_eq {j r : Nat} (h : ∀ k, k < 23 → cr g j k = m r k) : fX4_certifiedKilos g j = fX7_sum na nb nc nd T m r 17 := by
  have k0 : g 5 j 0 = m r 17 := h 17 (by decide)
  have k1 : g 5 j 1 = m r 18 := h 18 (by decide)
  have k2 : g 5 j 2 = m r 19 := h 19 (by decide)
  have k3 : g 5 j 3 = m r 20 := h 20 (by decide)
  have k4 : g 5 j 4 = m r 21 := h 21 (by decide)
  have k5 : g 5 j 5 = m r 22 := h 22 (by decide)
  unfold fX4_certifiedKilos fX7_sum
  rw [k0, k1, k2, k3, k4, k5]
  rfl
theorem grade_eq {x : Int32} (h : ∀ k, k < 3 → g 6 x.toNatClampNeg k = m (340 + x.toNatClampNeg) k) : fX3_grade g x.toNatClampNeg = fX7_gradeOf na nb nc nd T m x := by
  unfold fX3_grade fX7_gradeOf
  rw [h 0 (by decide), h 1 (by decide), h 2 (by decide)]
theorem worth_eq {x pr lb : Int32} (h : ∀ k, k < 23 → cr g (8 + x.toNatClampNeg) k = m (308 + x.toNatClampNeg) k) (h6 : ∀ k, k < 3 → g 6 x.toNatClampNeg k = m (340 + x.toNatClampNeg) k) : fX3_worth g x.toNatClampNeg pr lb = fX7_brings na nb nc nd T m x pr lb := by
  have e0 : g 3 (8 + x.toNatClampNeg) 0 = m (308 + x.toNatClampNeg) 0 := h 0 (by decide)
  unfold fX3_worth fX7_brings
  rw [e0, cert_eq (na := na) (nb := nb) (nc := nc) (nd := nd) (T := T) h, grade_eq (na := na) (nb := nb) (nc := nc) (nd := nd) (T := T) h6, Int32.add_zero]
/-- what a lot brings is bounded -/
theorem brings_b {x pr lb : Int32} (hI : mixI m (308 + x.toNatClampNeg) 1800) (hp0 : 0 ≤ pr.toInt) (hp : pr.toInt ≤ 200) : 0 ≤ (fX7_brings na nb nc nd T m x pr lb).toInt ∧ (fX7_brings na nb nc nd T m x pr lb).toInt ≤ 378000 := by
  have hk := hI.k0
  have b := mul_b hk.1 hk.2 hp0 hp
  have e : (m (308 + x.toNatClampNeg) 0 * pr).toInt = (m (308 + x.toNatClampNeg) 0).toInt * pr.toInt := ti_mul (by omega) (by omega)
  have e00 : (0 : Int32).toInt = 0 := rfl
  have e10 : (10 : Int32).toInt = 10 := rfl
  have s0 := hI.1 0 (by decide)
  have s1 := hI.1 1 (by decide)
  have s2 := hI.1 2 (by decide)
  have s3 := hI.1 3 (by decide)
  have s4 := hI.1 4 (by decide)
  have s5 := hI.1 5 (by decide)
  simp only [Nat.reduceAdd] at s0 s1 s2 s3 s4 s5
  have hs := hI.2.1
  have hc : (fX7_sum na nb nc nd T m (308 + x.toNatClampNeg) 17).toInt = (m (308 + x.toNatClampNeg) 17).toInt + (m (308 + x.toNatClampNeg) 18).toInt + (m (308 + x.toNatClampNeg) 19).toInt + (m (308 + x.toNatClampNeg) 20).toInt + (m (308 + x.toNatClampNeg) 21).toInt + (m (308 + x.toNatClampNeg) 22).toInt := by
    have q : fX7_sum na nb nc nd T m (308 + x.toNatClampNeg) 17 = (((((0 + m (308 + x.toNatClampNeg) 17) + m (308 + x.toNatClampNeg) 18) + m (308 + x.toNatClampNeg) 19) + m (308 + x.toNatClampNeg) 20) + m (308 + x.toNatClampNeg) 21) + m (308 + x.toNatClampNeg) 22 := rfl
    rw [q, Int32.zero_add]
    have a1 := ti_add (a := m (308 + x.toNatClampNeg) 17) (b := m (308 + x.toNatClampNeg) 18) (by omega) (by omega)
    have a2 := ti_add (a := m (308 + x.toNatClampNeg) 17 + m (308 + x.toNatClampNeg) 18) (b := m (308 + x.toNatClampNeg) 19) (by rw [a1]; omega) (by rw [a1]; omega)
    have a3 := ti_add (a := m (308 + x.toNatClampNeg) 17 + m (308 + x.toNatClampNeg) 18 + m (308 + x.toNatClampNeg) 19) (b := m (308 + x.toNatClampNeg) 20) (by rw [a2, a1]; omega) (by rw [a2, a1]; omega)
    have a4 := ti_add (a := m (308 + x.toNatClampNeg) 17 + m (308 + x.toNatClampNeg) 18 + m (308 + x.toNatClampNeg) 19 + m (308 + x.toNatClampNeg) 20) (b := m (308 + x.toNatClampNeg) 21) (by rw [a3, a2, a1]; omega) (by rw [a3, a2, a1]; omega)
    have a5 := ti_add (a := m (308 + x.toNatClampNeg) 17 + m (308 + x.toNatClampNeg) 18 + m (308 + x.toNatClampNeg) 19 + m (308 + x.toNatClampNeg) 20 + m (308 + x.toNatClampNeg) 21) (b := m (308 + x.toNatClampNeg) 22) (by rw [a4, a3, a2, a1]; omega) (by rw [a4, a3, a2, a1]; omega)
    rw [a5, a4, a3, a2, a1]
  unfold fX7_brings
  by_cases q : lb = 0
  · rw [if_pos q, Int32.add_zero, e]; omega
  · rw [if_neg q]
    by_cases q2 : fX7_gradeOf na nb nc nd T m x < 80
    · rw [if_pos q2, Int32.add_zero, e]; omega
    · rw [if_neg q2]
      have e2 : (10 * fX7_sum na nb nc nd T m (308 + x.toNatClampNeg) 17).toInt = 10 * (fX7_sum na nb nc nd T m (308 + x.toNatClampNeg) 17).toInt := by rw [ti_mul (by rw [e10]; omega) (by rw [e10]; omega), e10]
      rw [ti_add (by rw [e, e2]; omega) (by rw [e, e2]; omega), e, e2]
      omega
theorem share_eq {x fa pr lb : Int32} (h : ∀ k, k < 23 → cr g (8 + x.toNatClampNeg) k = m (308 + x.toNatClampNeg) k) (hI : mixI m (308 + x.toNatClampNeg) 1800) (hk : 0 < (m (308 + x.toNatClampNeg) 0).toInt) (hfa : fa.toNatClampNeg < 6) (hp0 : 0 ≤ pr.toInt) (hp : pr.toInt ≤ 200) : fX3_shareOf g x.toNatClampNeg fa (fX7_brings na nb nc nd T m x pr lb) = fX7_share na nb nc nd T m x fa pr lb := by
  have e0 : g 3 (8 + x.toNatClampNeg) 0 = m (308 + x.toNatClampNeg) 0 := h 0 (by decide)
  have ef : g 4 (8 + x.toNatClampNeg) fa.toNatClampNeg = m (308 + x.toNatClampNeg) (11 + fa.toNatClampNeg) := (cr_4 hfa).symm.trans (h _ (by omega))
  have hk0 := hI.k0
  have hb := brings_b (na := na) (nb := nb) (nc := nc) (nd := nd) (T := T) (x := x) (lb := lb) hI hp0 hp
  have z : (0 : Int32).toInt = 0 := rfl
  have z2 : (2 : Int32).toInt = 2 := rfl
  have z5 : (5 : Int32).toInt = 5 := rfl
  have y2 : (2 : Int64).toInt = 2 := rfl
  have y5 : (5 : Int64).toInt = 5 := rfl
  have f0 := hI.k hfa
  have f1 := hI.kle hfa
  unfold fX3_shareOf fX7_share
  rw [e0, ef, if_neg (by rw [le_ti, z]; omega)]
  generalize fX7_brings na nb nc nd T m x pr lb = B at hb ⊢
  generalize m (308 + x.toNatClampNeg) (11 + fa.toNatClampNeg) = F at f0 f1 ⊢
  generalize m (308 + x.toNatClampNeg) 0 = K at hk hk0 f1 ⊢
  have b1 := mul_b hb.1 hb.2 f0 (Int.le_trans f1 hk0.2)
  have c1 : (B * F).toInt = B.toInt * F.toInt := ti_mul (by omega) (by omega)
  have c2 : (B * F * 2).toInt = B.toInt * F.toInt * 2 := by rw [ti_mul (by rw [c1, z2]; omega) (by rw [c1, z2]; omega), c1, z2]
  have c3 : (5 * K).toInt = 5 * K.toInt := by rw [ti_mul (by rw [z5]; omega) (by rw [z5]; omega), z5]
  have d1 : (B.toInt64 * F.toInt64).toInt = B.toInt * F.toInt := by rw [tl_mul (by simp only [Int32.toInt_toInt64]; omega) (by simp only [Int32.toInt_toInt64]; omega), Int32.toInt_toInt64, Int32.toInt_toInt64]
  have d2 : (B.toInt64 * F.toInt64 * 2).toInt = B.toInt * F.toInt * 2 := by rw [tl_mul (by rw [d1, y2]; omega) (by rw [d1, y2]; omega), d1, y2]
  have d3 : (5 * K.toInt64).toInt = 5 * K.toInt := by rw [tl_mul (by rw [y5, Int32.toInt_toInt64]; omega) (by rw [y5, Int32.toInt_toInt64]; omega), y5, Int32.toInt_toInt64]
  apply ti_eq
  have q0 : 0 ≤ B.toInt * F.toInt * 2 / (5 * K.toInt) := Int.ediv_nonneg (by omega) (by omega)
  have q1 : B.toInt * F.toInt * 2 / (5 * K.toInt) ≤ B.toInt * F.toInt * 2 := Int.ediv_le_self _ (by omega)
  rw [ti_div (by rw [c2]; omega) (by rw [c3]; omega), c2, c3, Int64.toInt_toInt32, tl_div (by rw [d2]; omega) (by rw [d3]; omega) (by rw [d2]; omega), d2, d3, bm_id (by omega) (by omega)]
end RD
