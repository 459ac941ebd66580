/-! ===== numbers that do not wrap ===== -/
theorem p32 : ((2 ^ 32 : Nat) : Int) = 4294967296 := rfl
theorem bm_id {x : Int} (h1 : -2147483648 ≤ x) (h2 : x < 2147483648) : x.bmod (2 ^ 32) = x := by
  rw [Int.bmod_def]
  have := p32
  omega
theorem ti_add {a b : Int32} (h1 : -2147483648 ≤ a.toInt + b.toInt) (h2 : a.toInt + b.toInt < 2147483648) : (a + b).toInt = a.toInt + b.toInt := by
  rw [Int32.toInt_add]; exact bm_id h1 h2
theorem ti_sub {a b : Int32} (h1 : -2147483648 ≤ a.toInt - b.toInt) (h2 : a.toInt - b.toInt < 2147483648) : (a - b).toInt = a.toInt - b.toInt := by
  rw [Int32.toInt_sub]; exact bm_id h1 h2
theorem ti_mul {a b : Int32} (h1 : -2147483648 ≤ a.toInt * b.toInt) (h2 : a.toInt * b.toInt < 2147483648) : (a * b).toInt = a.toInt * b.toInt := by
  rw [Int32.toInt_mul]; exact bm_id h1 h2
theorem ti_rg (a : Int32) : -2147483648 ≤ a.toInt ∧ a.toInt < 2147483648 := by
  have h1 := Int32.toInt_lt a
  have h2 := Int32.le_toInt a
  constructor <;> omega
theorem ti_div {a b : Int32} (ha : 0 ≤ a.toInt) (hb : 0 < b.toInt) : (a / b).toInt = a.toInt / b.toInt := by
  rw [Int32.toInt_div, Int.tdiv_eq_ediv_of_nonneg ha]
  have h := ti_rg a
  have h1 : 0 ≤ a.toInt / b.toInt := Int.ediv_nonneg ha (by omega)
  have h2 : a.toInt / b.toInt ≤ a.toInt := Int.ediv_le_self _ ha
  exact bm_id (by omega) (by omega)
theorem ti_nI {n : Nat} (h : n < 2147483648) : (nI n).toInt = n := nI_toInt h
theorem ti_eq {a b : Int32} (h : a.toInt = b.toInt) : a = b := Int32.toInt_inj.mp h
theorem lt_ti {a b : Int32} : a < b ↔ a.toInt < b.toInt := Int32.lt_iff_toInt_lt
theorem le_ti {a b : Int32} : a ≤ b ↔ a.toInt ≤ b.toInt := Int32.le_iff_toInt_le
theorem eq_ti {a b : Int32} : a = b ↔ a.toInt = b.toInt := ⟨fun h => by rw [h], ti_eq⟩
/-- x times y, both in bounds -/
theorem mul_b {x y X Y : Int} (hx0 : 0 ≤ x) (hx : x ≤ X) (hy0 : 0 ≤ y) (hy : y ≤ Y) : 0 ≤ x * y ∧ x * y ≤ X * Y :=
  ⟨Int.mul_nonneg hx0 hy0, Int.mul_le_mul hx hy hy0 (Int.le_trans hx0 hx)⟩
/-- the mean by kilos stays in bounds -/
theorem mean_b {k v k2 v2 : Int32} {M : Int} (hk0 : 0 ≤ k.toInt) (hk : k.toInt ≤ 2000) (hk20 : 0 ≤ k2.toInt) (hk2 : k2.toInt ≤ 2000) (hp : 0 < k.toInt + k2.toInt) (hv0 : 0 ≤ v.toInt) (hv : v.toInt ≤ M) (hv20 : 0 ≤ v2.toInt) (hv2 : v2.toInt ≤ M) (hM : M ≤ 300000) :
    0 ≤ ((k * v + k2 * v2) / (k + k2)).toInt ∧ ((k * v + k2 * v2) / (k + k2)).toInt ≤ M := by
  have hM0 : 0 ≤ M := Int.le_trans hv0 hv
  have a1 := mul_b hk0 hk hv0 (Int.le_trans hv hM)
  have a2 := mul_b hk20 hk2 hv20 (Int.le_trans hv2 hM)
  have b1 := mul_b hk0 (Int.le_refl _) hv0 hv
  have b2 := mul_b hk20 (Int.le_refl _) hv20 hv2
  have e1 : (k * v).toInt = k.toInt * v.toInt := ti_mul (by omega) (by omega)
  have e2 : (k2 * v2).toInt = k2.toInt * v2.toInt := ti_mul (by omega) (by omega)
  have e3 : (k * v + k2 * v2).toInt = k.toInt * v.toInt + k2.toInt * v2.toInt := by rw [ti_add (by rw [e1, e2]; omega) (by rw [e1, e2]; omega), e1, e2]
  have e4 : (k + k2).toInt = k.toInt + k2.toInt := ti_add (by omega) (by omega)
  rw [ti_div (by rw [e3]; omega) (by rw [e4]; omega), e3, e4]
  refine ⟨Int.ediv_nonneg (by omega) (by omega), ?_⟩
  refine Int.ediv_le_of_le_mul (by omega) ?_
  have e5 : M * (k.toInt + k2.toInt) = k.toInt * M + k2.toInt * M := by rw [Int.mul_add, Int.mul_comm M, Int.mul_comm M]
  omega
/-- of 0 kilos with others: the others' -/
theorem mean_0 {v k2 v2 : Int32} (hk20 : 0 < k2.toInt) (hk2 : k2.toInt ≤ 2000) (hv20 : 0 ≤ v2.toInt) (hv2 : v2.toInt ≤ 300000) : ((0 * v + k2 * v2) / (0 + k2)) = v2 := by
  have a2 := mul_b (Int.le_of_lt hk20) hk2 hv20 hv2
  have e2 : (k2 * v2).toInt = k2.toInt * v2.toInt := ti_mul (by omega) (by omega)
  rw [Int32.zero_mul, Int32.zero_add, Int32.zero_add]
  apply ti_eq
  rw [ti_div (by rw [e2]; omega) hk20, e2]
  exact Int.mul_ediv_cancel_left _ (by omega)
theorem in_ti {x : Int32} {n : Nat} (h0 : 0 ≤ x.toInt) (h1 : x.toInt < n) : vp_in x n := vp_in_iff.mpr ⟨h0, h1⟩
theorem clamp_ti {x : Int32} (h0 : 0 ≤ x.toInt) : (x.toNatClampNeg : Int) = x.toInt := by
  show ((x.toInt.toNat : Nat) : Int) = x.toInt
  omega
