/-! ===== what the law asks beyond whole's state ===== -/
def wt (g : Gd) (i : Nat) : Int32 := if g 2 i 3 = 0 then g 2 i 1 else 0
def sk (g : Gd) (i : Nat) : Int32 := if g 3 (8 + i) 10 = 0 then 0 else g 3 (8 + i) 0
def ins (g : Gd) (i : Nat) : Int32 := if g 3 (8 + i) 10 = 0 then 0 else 1
def bkl (g : Gd) (i : Nat) : Int32 := g 3 (3 + i) 0
def tkl (g : Gd) (i : Nat) : Int32 := g 3 i 0
def evr (g : Gd) (i : Nat) : Int32 := g 1 i 3
def cns (g : Gd) (i : Nat) : Int32 := g 1 i 2
/-- the kilos' balance -/
def BAL (g : Gd) : Prop := sm (evr g) 6 = ((((sm (wt g) 20 + sm (tkl g) 3) + sm (bkl g) 5) + sm (sk g) 12) + g 0 0 4) + g 0 0 5
/-- money and coins -/
def COIN (g : Gd) (gn : Int32) : Prop := g 0 0 1 + sm (cns g) 6 = gn
def tkE (g : Gd) (i : Nat) : Prop := g 3 i 0 = 0 → g 3 i 1 = 0 ∧ g 3 i 2 = 0 ∧ g 3 i 3 = 0
def bdE (g : Gd) (i : Nat) : Prop := (g 3 (3 + i) 0).toInt ≤ 12 * (g 3 (3 + i) 8).toInt ∧ (¬ g 3 (3 + i) 0 = 0 → 80 ≤ (g 3 (3 + i) 5).toInt) ∧ (g 3 (3 + i) 0 = 0 → g 3 (3 + i) 4 = 0 ∧ g 3 (3 + i) 5 = 0 ∧ g 3 (3 + i) 3 = 0) ∧ 0 ≤ (g 3 (3 + i) 6).toInt ∧ (g 3 (3 + i) 6).toInt ≤ (g 0 0 0).toInt
def bkE (g : Gd) (i : Nat) : Prop := 0 ≤ (g 2 i 4).toInt ∧ (g 2 i 4).toInt ≤ 25 ∧ (g 2 i 3 = 0 → (g 2 i 4).toInt ≤ 24) ∧ (g 2 i 3 = 3 → g 2 i 4 = 25)
def rdE (v : Int32) : Prop := v = -1 ∨ (40 ≤ v.toInt ∧ v.toInt ≤ 92)
def E0 (na nc : Nat) (g : Gd) : Prop :=
  (∀ j, j < 20 → ∀ f, na ≤ f → f < 6 → g 4 j f = 0) ∧ (∀ i, i < 3 → tkE g i) ∧ (∀ i, i < nc → bdE g i) ∧ (∀ i, i < 20 → bkE g i) ∧ (∀ i, i < 12 → ∀ k, k < 3 → rdE (g 6 i k)) ∧ (∀ k, k < 3 → g 7 0 k = 0)
theorem E0.x1 {na nc : Nat} {g : Gd} (h : E0 na nc g) {j f : Nat} (hj : j < 20) (h1 : na ≤ f) (h2 : f < 6) : g 4 j f = 0 := h.1 j hj f h1 h2
theorem E0.x2 {na nc : Nat} {g : Gd} (h : E0 na nc g) {i : Nat} (hi : i < 3) : tkE g i := h.2.1 i hi
theorem E0.x3 {na nc : Nat} {g : Gd} (h : E0 na nc g) {i : Nat} (hi : i < nc) : bdE g i := h.2.2.1 i hi
theorem E0.x4 {na nc : Nat} {g : Gd} (h : E0 na nc g) {i : Nat} (hi : i < 20) : bkE g i := h.2.2.2.1 i hi
theorem E0.x5 {na nc : Nat} {g : Gd} (h : E0 na nc g) {i k : Nat} (hi : i < 12) (hk : k < 3) : rdE (g 6 i k) := h.2.2.2.2.1 i hi k hk
theorem E0.x6 {na nc : Nat} {g : Gd} (h : E0 na nc g) {k : Nat} (hk : k < 3) : g 7 0 k = 0 := h.2.2.2.2.2 k hk
/-- entries that E0 does not speak of -/
def irr (t i k : Nat) : Bool := match t with
  | 0 => decide (k ≠ 0)
  | 1 => true
  | 2 => decide (k ≠ 3 ∧ k ≠ 4)
  | 3 => decide (i = 20 ∨ k = 7 ∨ k = 9 ∨ 10 ≤ k)
  | 4 => decide (i = 20)
  | 5 => true
  | _ => false
theorem E0.up {na nc : Nat} {g : Gd} {t i k : Nat} {v : Int32} (h : E0 na nc g) (hn : nc ≤ 5) (hi : irr t i k = true) : E0 na nc (up g t i k v) := by
  have n0 : ¬ (0 = t ∧ 0 = i ∧ 0 = k) := by rintro ⟨rfl, rfl, rfl⟩; simp [irr] at hi
  have n4 : ∀ j f, j < 20 → ¬ (4 = t ∧ j = i ∧ f = k) := by rintro j f hj ⟨rfl, rfl, rfl⟩; simp [irr] at hi; omega
  have n3 : ∀ j c, j < 20 → c < 7 ∨ c = 8 → ¬ (3 = t ∧ j = i ∧ c = k) := by rintro j c hj hc ⟨rfl, rfl, rfl⟩; simp [irr] at hi; omega
  have n2 : ∀ j c, c = 3 ∨ c = 4 → ¬ (2 = t ∧ j = i ∧ c = k) := by rintro j c hc ⟨rfl, rfl, rfl⟩; simp [irr] at hi; omega
  have n6 : ∀ j c, ¬ (6 = t ∧ j = i ∧ c = k) := by rintro j c ⟨rfl, rfl, rfl⟩; simp [irr] at hi
  have n7 : ∀ j c, ¬ (7 = t ∧ j = i ∧ c = k) := by rintro j c ⟨rfl, rfl, rfl⟩; simp [irr] at hi
  refine ⟨fun j hj f h1 h2 => ?_, fun j hj => ?_, fun j hj => ?_, fun j hj => ?_, fun j hj c hc => ?_, fun c hc => ?_⟩
  · rw [up_ne (n4 j f hj)]; exact h.x1 hj h1 h2
  · unfold tkE
    rw [up_ne (n3 j 0 (by omega) (by omega)), up_ne (n3 j 1 (by omega) (by omega)), up_ne (n3 j 2 (by omega) (by omega)), up_ne (n3 j 3 (by omega) (by omega))]
    exact h.x2 hj
  · unfold bdE
    rw [up_ne (n3 (3 + j) 0 (by omega) (by omega)), up_ne (n3 (3 + j) 8 (by omega) (by omega)), up_ne (n3 (3 + j) 5 (by omega) (by omega)), up_ne (n3 (3 + j) 4 (by omega) (by omega)), up_ne (n3 (3 + j) 3 (by omega) (by omega)), up_ne (n3 (3 + j) 6 (by omega) (by omega)), up_ne n0]
    exact h.x3 hj
  · unfold bkE
    rw [up_ne (n2 j 3 (by omega)), up_ne (n2 j 4 (by omega))]
    exact h.x4 hj
  · rw [up_ne (n6 j c)]; exact h.x5 hj hc
  · rw [up_ne (n7 0 c)]; exact h.x6 hc
/-- entries that the balance does not speak of -/
def irb (t i k : Nat) : Bool := match t with
  | 0 => decide (k ≠ 4 ∧ k ≠ 5)
  | 1 => decide (k ≠ 3)
  | 2 => decide (k ≠ 1 ∧ k ≠ 3)
  | 3 => decide (i = 20 ∨ (k ≠ 0 ∧ k ≠ 10))
  | _ => true
theorem BAL.cg {g g2 : Gd} (h : BAL g) (e1 : ∀ i, i < 6 → g2 1 i 3 = g 1 i 3) (e2 : ∀ i, i < 20 → g2 2 i 1 = g 2 i 1 ∧ g2 2 i 3 = g 2 i 3) (e3 : ∀ j, j < 20 → g2 3 j 0 = g 3 j 0 ∧ g2 3 j 10 = g 3 j 10) (e4 : g2 0 0 4 = g 0 0 4) (e5 : g2 0 0 5 = g 0 0 5) : BAL g2 := by
  unfold BAL
  rw [sm_cg (f := evr g) (f2 := evr g2) 6 e1, sm_cg (f := wt g) (f2 := wt g2) 20 (fun i hi => by unfold wt; rw [(e2 i hi).1, (e2 i hi).2]), sm_cg (f := tkl g) (f2 := tkl g2) 3 (fun i hi => (e3 i (by omega)).1), sm_cg (f := bkl g) (f2 := bkl g2) 5 (fun i hi => (e3 (3 + i) (by omega)).1), sm_cg (f := sk g) (f2 := sk g2) 12 (fun i hi => by unfold sk; rw [(e3 (8 + i) (by omega)).1, (e3 (8 + i) (by omega)).2]), e4, e5]
  exact h
theorem BAL.up {g : Gd} {t i k : Nat} {v : Int32} (h : BAL g) (hi : irb t i k = true) : BAL (up g t i k v) := by
  refine h.cg (fun j hj => up_ne ?_) (fun j hj => ⟨up_ne ?_, up_ne ?_⟩) (fun j hj => ⟨up_ne ?_, up_ne ?_⟩) (up_ne ?_) (up_ne ?_)
  all_goals (rintro ⟨rfl, rfl, rfl⟩; simp [irb] at hi <;> omega)
theorem COIN.cg {g g2 : Gd} {gn : Int32} (h : COIN g gn) (e1 : g2 0 0 1 = g 0 0 1) (e2 : ∀ i, i < 6 → g2 1 i 2 = g 1 i 2) : COIN g2 gn := by
  unfold COIN
  rw [e1, sm_cg (f := cns g) (f2 := cns g2) 6 e2]
  exact h
/-! ===== sums that don't wrap ===== -/
theorem s6 {a0 a1 a2 a3 a4 a5 : Int32} {M : Int} (h0 : 0 ≤ a0.toInt) (h1 : 0 ≤ a1.toInt) (h2 : 0 ≤ a2.toInt) (h3 : 0 ≤ a3.toInt) (h4 : 0 ≤ a4.toInt) (h5 : 0 ≤ a5.toInt) (hs : a0.toInt + a1.toInt + a2.toInt + a3.toInt + a4.toInt + a5.toInt ≤ M) (hM : M < 2147483648) :
    ((((((0 + a0) + a1) + a2) + a3) + a4) + a5).toInt = a0.toInt + a1.toInt + a2.toInt + a3.toInt + a4.toInt + a5.toInt := by
  have e0 : (0 : Int32) + a0 = a0 := Int32.zero_add _
  have q1 : (a0 + a1).toInt = a0.toInt + a1.toInt := ti_add (by omega) (by omega)
  have q2 : (a0 + a1 + a2).toInt = a0.toInt + a1.toInt + a2.toInt := by rw [ti_add (by omega) (by omega), q1]
  have q3 : (a0 + a1 + a2 + a3).toInt = a0.toInt + a1.toInt + a2.toInt + a3.toInt := by rw [ti_add (by omega) (by omega), q2]
  have q4 : (a0 + a1 + a2 + a3 + a4).toInt = a0.toInt + a1.toInt + a2.toInt + a3.toInt + a4.toInt := by rw [ti_add (by omega) (by omega), q3]
  rw [e0, ti_add (by omega) (by omega), q4]
section MX
variable {na nb nc nd : Nat} {g : Gd}
theorem mixG.sum {j : Nat} {K : Int} (h : mixG g j K) (hK : K ≤ 1000000) : sm (fun f => g 4 j f) 6 = g 3 j 0 := by
  have f6 := h.f6
  have e := h.2.1
  have b := h.2.2.1
  apply ti_eq
  show ((((((0 + g 4 j 0) + g 4 j 1) + g 4 j 2) + g 4 j 3) + g 4 j 4) + g 4 j 5).toInt = _
  rw [s6 (M := K) f6.1.1 f6.1.2.1 f6.1.2.2.1 f6.1.2.2.2.1 f6.1.2.2.2.2.1 f6.1.2.2.2.2.2 (by omega) (by omega)]
  exact e.symm
theorem mixG.cert {j : Nat} {K : Int} (h : mixG g j K) (hK : K ≤ 1000000) : 0 ≤ (fX4_certifiedKilos g j).toInt ∧ (fX4_certifiedKilos g j).toInt ≤ (g 3 j 0).toInt := by
  have h0 := h.1 0 (by decide)
  have h1 := h.1 1 (by decide)
  have h2 := h.1 2 (by decide)
  have h3 := h.1 3 (by decide)
  have h4 := h.1 4 (by decide)
  have h5 := h.1 5 (by decide)
  have e := h.2.1
  have b := h.2.2.1
  unfold fX4_certifiedKilos
  rw [s6 (M := K) h0.1 h1.1 h2.1 h3.1 h4.1 h5.1 (by omega) (by omega)]
  omega
theorem mul_hb {a h : Int32} (ha : 0 ≤ a.toInt) (hb : a.toInt ≤ 1800) (h0 : 0 ≤ h.toInt) (h1 : h.toInt ≤ 22) : 0 ≤ (a * h).toInt ∧ (a * h).toInt ≤ 22 * a.toInt := by
  have m1 := Int.mul_nonneg ha h0
  have m2 : a.toInt * h.toInt ≤ a.toInt * 22 := Int.mul_le_mul_of_nonneg_left h1 ha
  rw [ti_mul (by omega) (by omega)]
  omega
/-- the mean height of a mix is 0 to 22 -/
theorem height_b (S : SY na nb nc nd g) {j : Nat} {K : Int} (h : mixG g j K) (hK : K ≤ 1800) : 0 ≤ (fX4_height g j).toInt ∧ (fX4_height g j).toInt ≤ 22 := by
  have e0 : (0 : Int32).toInt = 0 := rfl
  unfold fX4_height
  by_cases c : g 3 j 0 ≤ 0
  · rw [if_pos c]; decide
  · rw [if_neg c]
    rw [le_ti, e0] at c
    have f6 := h.f6
    have e := h.2.1
    have b := h.2.2.1
    have m0 := mul_hb (h := g 1 0 0) f6.1.1 (by omega) (S.hgt (by decide)).1 (S.hgt (by decide)).2
    have m1 := mul_hb (h := g 1 1 0) f6.1.2.1 (by omega) (S.hgt (by decide)).1 (S.hgt (by decide)).2
    have m2 := mul_hb (h := g 1 2 0) f6.1.2.2.1 (by omega) (S.hgt (by decide)).1 (S.hgt (by decide)).2
    have m3 := mul_hb (h := g 1 3 0) f6.1.2.2.2.1 (by omega) (S.hgt (by decide)).1 (S.hgt (by decide)).2
    have m4 := mul_hb (h := g 1 4 0) f6.1.2.2.2.2.1 (by omega) (S.hgt (by decide)).1 (S.hgt (by decide)).2
    have m5 := mul_hb (h := g 1 5 0) f6.1.2.2.2.2.2 (by omega) (S.hgt (by decide)).1 (S.hgt (by decide)).2
    have s := s6 (M := 22 * K) m0.1 m1.1 m2.1 m3.1 m4.1 m5.1 (by omega) (by omega)
    rw [ti_div (by rw [s]; omega) (by omega), s]
    refine ⟨Int.ediv_nonneg (by omega) (by omega), ?_⟩
    refine Int.ediv_le_of_le_mul (by omega) ?_
    omega
theorem div_b {a b : Int32} {M : Int} (ha : 0 ≤ a.toInt) (hb : 0 < b.toInt) (hM : a.toInt ≤ M) : 0 ≤ (a / b).toInt ∧ (a / b).toInt ≤ M := by
  rw [ti_div ha hb]
  have h1 : 0 ≤ a.toInt / b.toInt := Int.ediv_nonneg ha (by omega)
  have h2 : a.toInt / b.toInt ≤ a.toInt := Int.ediv_le_self _ ha
  omega
theorem sub_b {a b : Int32} (h1 : -1000000 ≤ a.toInt ∧ a.toInt ≤ 1000000) (h2 : -1000000 ≤ b.toInt ∧ b.toInt ≤ 1000000) : (a - b).toInt = a.toInt - b.toInt := ti_sub (by omega) (by omega)
theorem add_b {a b : Int32} (h1 : -1000000 ≤ a.toInt ∧ a.toInt ≤ 1000000) (h2 : -1000000 ≤ b.toInt ∧ b.toInt ≤ 1000000) : (a + b).toInt = a.toInt + b.toInt := ti_add (by omega) (by omega)
/-- every fault is at least 0 -/
theorem fault_b {i : Nat} (hm : mixG g (8 + i) 1800) (hv : (0 ≤ (g 3 (8 + i) 3).toInt ∧ (g 3 (8 + i) 3).toInt ≤ 260000) ∧ (0 ≤ (g 3 (8 + i) 5).toInt ∧ (g 3 (8 + i) 5).toInt ≤ 600) ∧ (0 ≤ (g 3 (8 + i) 7).toInt ∧ (g 3 (8 + i) 7).toInt ≤ 20000) ∧ (0 ≤ (g 3 (8 + i) 2).toInt ∧ (g 3 (8 + i) 2).toInt ≤ 20000)) (x : Int32) : 0 ≤ (fX3_fault g i x).toInt ∧ (fX3_fault g i x).toInt ≤ 260000 := by
  obtain ⟨h3, h5, h7, h2⟩ := hv
  have r1 := hm.2.2.2
  have e0 : (0 : Int32).toInt = 0 := rfl
  have e2 : (2 : Int32).toInt = 2 := rfl
  have e5 : (5 : Int32).toInt = 5 := rfl
  have e10 : (10 : Int32).toInt = 10 := rfl
  have e30 : (30 : Int32).toInt = 30 := rfl
  have e60 : (60 : Int32).toInt = 60 := rfl
  have e95 : (95 : Int32).toInt = 95 := rfl
  have e100 : (100 : Int32).toInt = 100 := rfl
  have e125 : (125 : Int32).toInt = 125 := rfl
  unfold fX3_fault
  split
  · have q : (100 - g 3 (8 + i) 1).toInt = 100 - (g 3 (8 + i) 1).toInt := by rw [sub_b (by rw [e100]; omega) (by omega), e100]
    exact div_b (by omega) (by rw [e5]; omega) (by omega)
  · split
    · split
      · unfold fX3_fermentFault
        split
        · split
          · rw [e0]; omega
          · rename_i c1 c2
            rw [le_ti, e100] at c2
            have q : (g 3 (8 + i) 3 - 100).toInt = (g 3 (8 + i) 3).toInt - 100 := by rw [sub_b (by omega) (by rw [e100]; omega), e100]
            exact div_b (by omega) (by rw [e5]; omega) (by omega)
        · rename_i c1
          rw [le_ti, e60] at c1
          have q : (60 - g 3 (8 + i) 3).toInt = 60 - (g 3 (8 + i) 3).toInt := by rw [sub_b (by rw [e60]; omega) (by omega), e60]
          exact div_b (by omega) (by rw [e5]; omega) (by omega)
      · rw [e0]; omega
    · split
      · split
        · rw [ti_mul (by rw [e2]; omega) (by rw [e2]; omega), e2]; omega
        · omega
      · split
        · unfold fX3_moistureFault
          split
          · split
            · rw [e0]; omega
            · rename_i c1 c2
              rw [le_ti, e95] at c2
              have q : (95 - g 3 (8 + i) 5).toInt = 95 - (g 3 (8 + i) 5).toInt := by rw [sub_b (by rw [e95]; omega) (by omega), e95]
              exact div_b (by omega) (by rw [e5]; omega) (by omega)
          · rename_i c1
            rw [le_ti, e125] at c1
            have q : (g 3 (8 + i) 5 - 125).toInt = (g 3 (8 + i) 5).toInt - 125 := by rw [sub_b (by omega) (by rw [e125]; omega), e125]
            exact div_b (by omega) (by rw [e10]; omega) (by omega)
        · exact div_b h2.1 (by rw [e30]; omega) (by omega)
theorem score_core {s a1 a2 a3 a4 a5 : Int32} (hs : 0 ≤ s.toInt ∧ s.toInt ≤ 92) (h1 : 0 ≤ a1.toInt ∧ a1.toInt ≤ 260000) (h2 : 0 ≤ a2.toInt ∧ a2.toInt ≤ 260000) (h3 : 0 ≤ a3.toInt ∧ a3.toInt ≤ 260000) (h4 : 0 ≤ a4.toInt ∧ a4.toInt ≤ 260000) (h5 : 0 ≤ a5.toInt ∧ a5.toInt ≤ 260000) :
    40 ≤ (if 40 < ((((s - a1) - a2) - a3) - a4) - a5 then ((((s - a1) - a2) - a3) - a4) - a5 else (40 : Int32)).toInt ∧ (if 40 < ((((s - a1) - a2) - a3) - a4) - a5 then ((((s - a1) - a2) - a3) - a4) - a5 else (40 : Int32)).toInt ≤ 92 := by
  have e40 : (40 : Int32).toInt = 40 := rfl
  have q1 : (s - a1).toInt = s.toInt - a1.toInt := ti_sub (by omega) (by omega)
  have q2 : (s - a1 - a2).toInt = s.toInt - a1.toInt - a2.toInt := by rw [ti_sub (by omega) (by omega), q1]
  have q3 : (s - a1 - a2 - a3).toInt = s.toInt - a1.toInt - a2.toInt - a3.toInt := by rw [ti_sub (by omega) (by omega), q2]
  have q4 : (s - a1 - a2 - a3 - a4).toInt = s.toInt - a1.toInt - a2.toInt - a3.toInt - a4.toInt := by rw [ti_sub (by omega) (by omega), q3]
  have q5 : (s - a1 - a2 - a3 - a4 - a5).toInt = s.toInt - a1.toInt - a2.toInt - a3.toInt - a4.toInt - a5.toInt := by rw [ti_sub (by omega) (by omega), q4]
  split
  · rename_i c
    rw [lt_ti, e40] at c
    omega
  · rw [e40]; omega
theorem score_b (S : SY na nb nc nd g) {i : Nat} (hi : i < nd) : 40 ≤ (fX3_score g i).toInt ∧ (fX3_score g i).toInt ≤ 92 := by
  have z := S.cnt
  have hm := S.lot (i := i) (by omega)
  obtain ⟨v1, v2, v3, v4, v5, v6, v7⟩ := S.lotv hi
  have F := fault_b hm ⟨v1, v3, v4, v5⟩
  have hh := height_b S hm (by omega)
  have e68 : (68 : Int32).toInt = 68 := rfl
  have e1 : (1 : Int32).toInt = 1 := rfl
  have e2 : (2 : Int32).toInt = 2 := rfl
  have q : (68 + fX4_height g (8 + i)).toInt = 68 + (fX4_height g (8 + i)).toInt := by rw [add_b (by rw [e68]; omega) (by omega), e68]
  unfold fX3_score
  split
  · exact score_core (by rw [ti_add (by omega) (by omega), q, e1]; omega) (F 1) (F 2) (F 3) (F 4) (F 5)
  · split
    · exact score_core (by rw [ti_add (by omega) (by omega), q, e2]; omega) (F 1) (F 2) (F 3) (F 4) (F 5)
    · exact score_core (by rw [q]; omega) (F 1) (F 2) (F 3) (F 4) (F 5)
theorem cause_b {i : Nat} : ¬ fX3_cause g i < 0 ∧ ¬ 5 < fX3_cause g i := by
  unfold fX3_cause
  repeat' split
  all_goals decide
theorem rd1 {a : Int32} (ha : 40 ≤ a.toInt ∧ a.toInt ≤ 92) : 40 ≤ ((0 + a) / 1).toInt ∧ ((0 + a) / 1).toInt ≤ 92 := by
  have e1 : (1 : Int32).toInt = 1 := rfl
  rw [Int32.zero_add, ti_div (by omega) (by rw [e1]; omega), e1, Int.ediv_one]; exact ha
theorem rd2 {a b : Int32} (ha : 40 ≤ a.toInt ∧ a.toInt ≤ 92) (hb : 40 ≤ b.toInt ∧ b.toInt ≤ 92) : 40 ≤ ((0 + a + b) / 2).toInt ∧ ((0 + a + b) / 2).toInt ≤ 92 := by
  have e2 : (2 : Int32).toInt = 2 := rfl
  have q : (0 + a + b).toInt = a.toInt + b.toInt := by rw [Int32.zero_add, ti_add (by omega) (by omega)]
  rw [ti_div (by omega) (by rw [e2]; omega), e2, q]; omega
theorem rd3 {a b c : Int32} (ha : 40 ≤ a.toInt ∧ a.toInt ≤ 92) (hb : 40 ≤ b.toInt ∧ b.toInt ≤ 92) (hc : 40 ≤ c.toInt ∧ c.toInt ≤ 92) : 40 ≤ ((0 + a + b + c) / 3).toInt ∧ ((0 + a + b + c) / 3).toInt ≤ 92 := by
  have e3 : (3 : Int32).toInt = 3 := rfl
  have q1 : (0 + a + b).toInt = a.toInt + b.toInt := by rw [Int32.zero_add, ti_add (by omega) (by omega)]
  have q : (0 + a + b + c).toInt = a.toInt + b.toInt + c.toInt := by rw [ti_add (by omega) (by omega), q1]
  rw [ti_div (by omega) (by rw [e3]; omega), e3, q]; omega
theorem grade_b {i : Nat} (h : ∀ k, k < 3 → rdE (g 6 i k)) : fX3_grade g i = -1 ∨ (40 ≤ (fX3_grade g i).toInt ∧ (fX3_grade g i).toInt ≤ 92) := by
  have r0 := h 0 (by decide)
  have r1 := h 1 (by decide)
  have r2 := h 2 (by decide)
  unfold fX3_grade
  split
  · split
    · split
      · exact Or.inl rfl
      · rename_i c; exact Or.inr (rd1 (r2.resolve_left c))
    · rename_i c1
      split
      · exact Or.inr (rd1 (r1.resolve_left c1))
      · rename_i c2; exact Or.inr (rd2 (r1.resolve_left c1) (r2.resolve_left c2))
  · rename_i c0
    split
    · split
      · exact Or.inr (rd1 (r0.resolve_left c0))
      · rename_i c2; exact Or.inr (rd2 (r0.resolve_left c0) (r2.resolve_left c2))
    · rename_i c1
      split
      · exact Or.inr (rd2 (r0.resolve_left c0) (r1.resolve_left c1))
      · rename_i c2; exact Or.inr (rd3 (r0.resolve_left c0) (r1.resolve_left c1) (r2.resolve_left c2))
end MX
