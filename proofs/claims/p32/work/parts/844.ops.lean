/-! ===== the calls that change something, side by side: the simple ones ===== -/
/-- what the law sees of an exception's number -/
def k12 (c : Nat) : Int32 := nI c
def k23 (c : Nat) : Int32 := nI (c - 1)
def k13 (c : Nat) : Int32 := if c = 3 then 2 else nI c
def Ok (na nb nc nd : Nat) (kk : Int32) (cd : Nat) (v : Int32) (g2 : Gd) (v2 : Int32) (m2 : Md) : Prop := m2 0 20 = kk ∧ (cd = 0 → v = v2) ∧ Rl na nb nc nd g2 m2 ∧ Iv na nb nc nd m2 ∧ Tr g2
section OP
variable {na nb nc nd T : Nat} {g : Gd} {m : Md}
theorem Ok.no (h : Rl na nb nc nd g m) (hI : Iv na nb nc nd m) (hT : Tr g) {cd : Nat} {c kk v v2 : Int32} (hc : cd ≠ 0) (hk : c = kk) : Ok na nb nc nd kk cd v g v2 (fX7_refuse na nb nc nd T (u2 m 0 20 0) c).2 :=
  ⟨(show u2 (u2 m 0 20 0) 0 20 c 0 20 = kk from (u2_eq _ _ _ _).trans hk), fun e => absurd e hc, h.th.th, hI.th.th, hT⟩
theorem at_is {x : Int32} {n : Nat} (hn : n ≤ 100) : ((if x < 0 then (1 : Nat) else if x < nI n then 0 else 1) = 0 ∧ ¬ fX7_is x 0 (nI n - 1) = 0 ∧ x.toNatClampNeg < n ∧ 0 ≤ x.toInt) ∨ ((if x < 0 then (1 : Nat) else if x < nI n then 0 else 1) = 1 ∧ fX7_is x 0 (nI n - 1) = 0) := by
  have e0 : (0 : Int32).toInt = 0 := rfl
  have e1 : (1 : Int32).toInt = 1 := rfl
  have en : (nI n).toInt = n := ti_nI (by omega)
  have ep : (nI n - 1).toInt = n - 1 := by rw [ti_sub (by rw [en, e1]; omega) (by rw [en, e1]; omega), en, e1]
  have hx : x.toNatClampNeg = x.toInt.toNat := rfl
  unfold fX7_is
  by_cases q : x < 0
  · rw [if_pos q, if_pos q]; exact Or.inr ⟨rfl, rfl⟩
  · rw [if_neg q, if_neg q]
    rw [lt_ti, e0] at q
    by_cases q2 : x < nI n
    · rw [if_pos q2]
      rw [lt_ti, en] at q2
      rw [if_neg (by rw [lt_ti, ep]; omega)]
      exact Or.inl ⟨rfl, by decide, by omega, by omega⟩
    · rw [if_neg q2]
      rw [lt_ti, en] at q2
      rw [if_pos (by rw [lt_ti, ep]; omega)]
      exact Or.inr ⟨rfl, rfl⟩
theorem farm_is (h : Rl na nb nc nd g m) (hI : Iv na nb nc nd m) (x : Int32) : (fX6_farmAt g x = 0 ∧ (∀ m2, ¬ fX7_isFarm na nb nc nd T m2 x = 0) ∧ x.toNatClampNeg < na ∧ 0 ≤ x.toInt) ∨ (fX6_farmAt g x = 1 ∧ ∀ m2, fX7_isFarm na nb nc nd T m2 x = 0) := by
  have := hI.1.1
  rcases at_is (x := x) (n := na) (by omega) with ⟨q1, q2, q3⟩ | ⟨q1, q2⟩
  · refine Or.inl ⟨?_, fun _ => q2, q3⟩
    unfold fX6_farmAt fX6_needFarm
    rw [h.a, if_pos q1]
  · refine Or.inr ⟨?_, fun _ => q2⟩
    unfold fX6_farmAt fX6_needFarm
    rw [h.a, q1]; rfl
theorem need_is (h : Rl na nb nc nd g m) (hI : Iv na nb nc nd m) (x : Int32) : (fX6_needFarm g x = 0 ∧ (∀ m2, ¬ fX7_isFarm na nb nc nd T m2 x = 0) ∧ x.toNatClampNeg < na ∧ 0 ≤ x.toInt) ∨ (fX6_needFarm g x = 1 ∧ ∀ m2, fX7_isFarm na nb nc nd T m2 x = 0) := by
  have := hI.1.1
  rcases at_is (x := x) (n := na) (by omega) with ⟨q1, q2, q3⟩ | ⟨q1, q2⟩
  · refine Or.inl ⟨?_, fun _ => q2, q3⟩
    unfold fX6_needFarm
    rw [h.a]; exact q1
  · refine Or.inr ⟨?_, fun _ => q2⟩
    unfold fX6_needFarm
    rw [h.a]; exact q1
theorem bask_is (h : Rl na nb nc nd g m) (hI : Iv na nb nc nd m) (x : Int32) : (fX6_basketAt g x = 0 ∧ (∀ m2, ¬ fX7_isBasket na nb nc nd T m2 x = 0) ∧ x.toNatClampNeg < nb ∧ 0 ≤ x.toInt) ∨ (fX6_basketAt g x = 1 ∧ ∀ m2, fX7_isBasket na nb nc nd T m2 x = 0) := by
  have := hI.1.2.1
  rcases at_is (x := x) (n := nb) (by omega) with ⟨q1, q2, q3⟩ | ⟨q1, q2⟩
  · refine Or.inl ⟨?_, fun _ => q2, q3⟩
    unfold fX6_basketAt
    rw [h.b]; exact q1
  · refine Or.inr ⟨?_, fun _ => q2⟩
    unfold fX6_basketAt
    rw [h.b]; exact q1
theorem bed_is (h : Rl na nb nc nd g m) (hI : Iv na nb nc nd m) (x : Int32) : (fX6_bedAt g x = 0 ∧ (∀ m2, ¬ fX7_isBed na nb nc nd T m2 x = 0) ∧ x.toNatClampNeg < nc ∧ 0 ≤ x.toInt) ∨ (fX6_bedAt g x = 1 ∧ ∀ m2, fX7_isBed na nb nc nd T m2 x = 0) := by
  have := hI.1.2.2.1
  rcases at_is (x := x) (n := nc) (by omega) with ⟨q1, q2, q3⟩ | ⟨q1, q2⟩
  · refine Or.inl ⟨?_, fun _ => q2, q3⟩
    unfold fX6_bedAt
    rw [h.c]; exact q1
  · refine Or.inr ⟨?_, fun _ => q2⟩
    unfold fX6_bedAt
    rw [h.c]; exact q1
theorem lot_is (h : Rl na nb nc nd g m) (hI : Iv na nb nc nd m) (x : Int32) : (fX6_lotAt g x = 0 ∧ (∀ m2, ¬ fX7_isLot na nb nc nd T m2 x = 0) ∧ x.toNatClampNeg < nd ∧ 0 ≤ x.toInt) ∨ (fX6_lotAt g x = 1 ∧ ∀ m2, fX7_isLot na nb nc nd T m2 x = 0) := by
  have := hI.1.2.2.2
  rcases at_is (x := x) (n := nd) (by omega) with ⟨q1, q2, q3⟩ | ⟨q1, q2⟩
  · refine Or.inl ⟨?_, fun _ => q2, q3⟩
    unfold fX6_lotAt
    rw [h.d]; exact q1
  · refine Or.inr ⟨?_, fun _ => q2⟩
    unfold fX6_lotAt
    rw [h.d]; exact q1
theorem tank_is (x : Int32) : (fX6_tankAt g x = 0 ∧ ¬ fX7_isTank x = 0 ∧ x.toNatClampNeg < 3 ∧ 0 ≤ x.toInt) ∨ (fX6_tankAt g x = 1 ∧ fX7_isTank x = 0) := by
  rcases at_is (x := x) (n := 3) (by omega) with ⟨q1, q2, q3⟩ | ⟨q1, q2⟩
  · exact Or.inl ⟨q1, q2, q3⟩
  · exact Or.inr ⟨q1, q2⟩
theorem taster_is (x : Int32) : (fX6_needTaster g x = 0 ∧ ¬ fX7_isTaster x = 0 ∧ x.toNatClampNeg < 3 ∧ 0 ≤ x.toInt) ∨ (fX6_needTaster g x = 1 ∧ fX7_isTaster x = 0) := by
  rcases at_is (x := x) (n := 3) (by omega) with ⟨q1, q2, q3⟩ | ⟨q1, q2⟩
  · exact Or.inl ⟨q1, q2, q3⟩
  · exact Or.inr ⟨q1, q2⟩
/-- a range -/
theorem rng_is (x lo hi : Int32) : (¬ x < lo ∧ x ≤ hi ∧ ¬ hi < x ∧ ¬ fX7_is x lo hi = 0) ∨ (x < lo ∧ fX7_is x lo hi = 0) ∨ (¬ x < lo ∧ ¬ x ≤ hi ∧ hi < x ∧ fX7_is x lo hi = 0) := by
  unfold fX7_is
  by_cases q : x < lo
  · rw [if_pos q]; exact Or.inr (Or.inl ⟨q, rfl⟩)
  · rw [if_neg q]
    by_cases q2 : hi < x
    · rw [if_pos q2]; exact Or.inr (Or.inr ⟨q, Int32.not_le.mpr q2, q2, rfl⟩)
    · rw [if_neg q2]; exact Or.inl ⟨q, Int32.not_lt.mp q2, q2, by decide⟩
theorem Tr.up {t i k : Nat} {v : Int32} (h : Tr g) (hn : ¬ (t = 3 ∧ i = 20)) : Tr (up g t i k v) := by
  unfold Tr
  rw [up_ne (by omega)]; exact h
theorem mixI.cg2 {m2 : Md} {r r2 : Nat} {K : Int} (h : mixI m r K) (e : ∀ k, k < 23 → k = 0 ∨ k = 1 ∨ 11 ≤ k → m2 r2 k = m r k) : mixI m2 r2 K := by
  obtain ⟨h1, h2, h3, h4, h5⟩ := h
  refine ⟨fun f hf => ?_, ?_, ?_, ?_, ?_⟩
  · rw [e _ (by omega) (by omega), e _ (by omega) (by omega)]; exact h1 f hf
  · rw [e 0 (by decide) (by decide), e 11 (by decide) (by decide), e 12 (by decide) (by decide), e 13 (by decide) (by decide), e 14 (by decide) (by decide), e 15 (by decide) (by decide), e 16 (by decide) (by decide)]; exact h2
  · rw [e 0 (by decide) (by decide)]; exact h3
  · rw [e 1 (by decide) (by decide)]; exact h4
  · rw [e 1 (by decide) (by decide)]; exact h5
theorem bedI.t6 {i : Nat} (b : bedI m i) (hk : ¬ m (303 + i) 0 = 0) : bedI (u2 m (303 + i) 6 0) i := by
  obtain ⟨c1, c2, c3, c4, c5, c6, c7, c8, c9⟩ := b
  have e : ∀ k, k ≠ 6 → u2 m (303 + i) 6 0 (303 + i) k = m (303 + i) k := fun k h => u2_nk h
  have e0 : u2 m (303 + i) 6 0 0 0 = m 0 0 := u2_nr (by omega)
  refine ⟨c1.cg2 (fun k _ h => e k (by omega)), c2.cg (e 3 (by decide)) (by rw [e0]; exact Int.le_refl _), ?_, ?_, ?_, ?_, fun z => ?_, ?_, ?_⟩
  · unfold mtI; rw [e 4 (by decide)]; exact c3
  · unfold moI; rw [e 5 (by decide), e 7 (by decide), e0]; exact c4
  · rw [e 8 (by decide)]; exact c5
  · rw [e 9 (by decide)]; exact c6
  · rw [e 0 (by decide)] at z; exact absurd z hk
  · rw [e 2 (by decide)]; exact c8
  · rw [e 10 (by decide)]; exact c9
theorem bedI.t9 {i : Nat} {v : Int32} (b : bedI m i) (hv : v = 0 ∨ v = 1) : bedI (u2 m (303 + i) 9 v) i := by
  obtain ⟨c1, c2, c3, c4, c5, c6, c7, c8, c9⟩ := b
  have e : ∀ k, k ≠ 9 → u2 m (303 + i) 9 v (303 + i) k = m (303 + i) k := fun k h => u2_nk h
  have e0 : u2 m (303 + i) 9 v 0 0 = m 0 0 := u2_nr (by omega)
  refine ⟨c1.cg2 (fun k _ h => e k (by omega)), c2.cg (e 3 (by decide)) (by rw [e0]; exact Int.le_refl _), ?_, ?_, ?_, ?_, fun z => ?_, ?_, ?_⟩
  · unfold mtI; rw [e 4 (by decide)]; exact c3
  · unfold moI; rw [e 5 (by decide), e 7 (by decide), e0]; exact c4
  · rw [e 8 (by decide)]; exact c5
  · rw [u2_eq]; exact hv
  · rw [e 0 (by decide)] at z; rw [e 6 (by decide), e 7 (by decide)]; exact c7 z
  · rw [e 2 (by decide)]; exact c8
  · rw [e 10 (by decide)]; exact c9
theorem P_label (h : Rl na nb nc nd g m) (hI : Iv na nb nc nd m) (hT : Tr g) (x d : Int32) : Ok na nb nc nd (k12 (fX6_label g x d).1) (fX6_label g x d).1 (fX6_label g x d).2.1 (fX6_label g x d).2.2 (fX7_label na nb nc nd T m x d).1 (fX7_label na nb nc nd T m x d).2 := by
  unfold fX6_label fX7_label
  rcases farm_is (T := T) h hI x with ⟨a1, a2, a3, a4⟩ | ⟨a1, a2⟩
  · rw [if_pos a1, if_neg (a2 _)]
    rcases rng_is d (-1) 900 with ⟨b1, b2, b3, b4⟩ | ⟨b1, b2⟩ | ⟨b1, b2, b3, b4⟩
    · rw [if_neg b1, if_pos b2, if_neg b4]
      dsimp only
      refine ⟨by rw [u2_nr (by omega), u2_eq]; rfl, fun _ => h.fa hI a3 (by decide), (h.th (v := 0)).u1 a3 hI.1.1 (by decide), ?_, hT.up (by omega)⟩
      refine (hI.th (v := 0)).cg (u2_nr (by omega)) (fun i _ => u2_nk (by decide)) (fun i _ k _ => u2_nr (by have := hI.1.1; have := hI.1.2.1; omega)) (fun r k _ _ => u2_nr (by have := hI.1.1; omega))
    · rw [if_pos b1, if_pos b2]; exact Ok.no (T := T) h hI hT (by simp) rfl
    · rw [if_neg b1, if_neg b2, if_pos b4]; exact Ok.no (T := T) h hI hT (by simp) rfl
  · rw [if_neg (by rw [a1]; decide), if_pos (a2 _), a1]; exact Ok.no (T := T) h hI hT (by simp) rfl
theorem P_price (h : Rl na nb nc nd g m) (hI : Iv na nb nc nd m) (hT : Tr g) (x : Int32) : Ok na nb nc nd (k23 (fX6_price g x).1) (fX6_price g x).1 (fX6_price g x).2.1 (fX6_price g x).2.2 (fX7_price na nb nc nd T m x).1 (fX7_price na nb nc nd T m x).2 := by
  unfold fX6_price fX7_price
  rcases rng_is x 1 50 with ⟨b1, b2, b3, b4⟩ | ⟨b1, b2⟩ | ⟨b1, b2, b3, b4⟩
  · rw [if_neg b1, if_pos b2, if_neg b4]
    dsimp only
    refine ⟨by rw [u2_nk (by decide), u2_eq]; rfl, fun _ => h.s (by decide), (h.th (v := 0)).u0 (by decide), ?_, hT.up (by omega)⟩
    exact (hI.th (v := 0)).cg (u2_nk (by omega)) (fun i _ => u2_nr (by omega)) (fun i _ k _ => u2_nr (by omega)) (fun r k _ _ => u2_nr (by omega))
  · rw [if_pos b1, if_pos b2]; exact Ok.no (T := T) h hI hT (by simp) rfl
  · rw [if_neg b1, if_neg b2, if_pos b4]; exact Ok.no (T := T) h hI hT (by simp) rfl
theorem empty_is {x : Int32} : (fX4_isEmpty x = 0 ∧ ¬ x = 0) ∨ (fX4_isEmpty x = 1 ∧ x = 0) := by
  unfold fX4_isEmpty
  by_cases q : x = 0
  · rw [if_pos q]; exact Or.inr ⟨rfl, q⟩
  · rw [if_neg q]; exact Or.inl ⟨rfl, q⟩
theorem P_turn (h : Rl na nb nc nd g m) (hI : Iv na nb nc nd m) (hT : Tr g) (x : Int32) : Ok na nb nc nd (k13 (fX6_turn g x).1) (fX6_turn g x).1 (fX6_turn g x).2.1 (fX6_turn g x).2.2 (fX7_turn na nb nc nd T m x).1 (fX7_turn na nb nc nd T m x).2 := by
  unfold fX6_turn fX7_turn
  rcases bed_is (T := T) h hI x with ⟨a1, a2, a3, a4⟩ | ⟨a1, a2⟩
  · have z := hI.1
    rw [if_pos a1, if_neg (a2 _), h.b3 hI a3 (by decide), h.b3 hI a3 (by decide)]
    rcases empty_is (x := m (303 + x.toNatClampNeg) 0) with ⟨b1, b2⟩ | ⟨b1, b2⟩
    · rw [if_pos b1, if_neg b2]
      dsimp only
      refine ⟨by rw [u2_nr (by omega), u2_eq]; rfl, fun _ => rfl, (h.th (v := 0)).u3b a3 z.2.2.1 (by decide), ?_, hT.up (by omega)⟩
      refine (hI.th (v := 0)).of ⟨by rw [u2_nr (show 0 ≠ 303 + x.toNatClampNeg by omega)]; exact Int.le_refl _, by rw [u2_nr (show 0 ≠ 303 + x.toNatClampNeg by omega), u2_nk (by decide)]; exact hI.2.1.2⟩ (fun i hi => u2_nr (by omega)) (fun i hi k _ => u2_nr (by omega)) (fun i hi => Or.inl (fun k _ => u2_nr (by omega))) (fun i hi => ?_) (fun i hi => Or.inl (fun k _ => u2_nr (by omega))) (sumK_same (hI.th (v := 0)) (fun i hi => u2_nr (by omega)))
      by_cases e : i = x.toNatClampNeg
      · subst e
        exact Or.inr (((hI.th (v := 0)).2.2.2.2.2.1 _ hi).t6 (by rw [u2_nr (by omega)]; exact b2))
      · exact Or.inl (fun k _ => u2_nr (by omega))
    · rw [if_neg (by rw [b1]; decide), if_pos b2]; exact Ok.no (T := T) h hI hT (by simp) rfl
  · rw [if_neg (by rw [a1]; decide), if_pos (a2 _), a1]; exact Ok.no (T := T) h hI hT (by simp) rfl
theorem P_cover (h : Rl na nb nc nd g m) (hI : Iv na nb nc nd m) (hT : Tr g) (x on : Int32) (hon : on = 0 ∨ on = 1) : Ok na nb nc nd (k12 (fX6_cover g x on).1) (fX6_cover g x on).1 (fX6_cover g x on).2.1 (fX6_cover g x on).2.2 (fX7_cover na nb nc nd T m x on).1 (fX7_cover na nb nc nd T m x on).2 := by
  have z := hI.1
  rcases bed_is (T := T) h hI x with ⟨a1, a2, a3, a4⟩ | ⟨a1, a2⟩
  · have b9 := (hI.2.2.2.2.2.1 _ a3).2.2.2.2.2.1
    have e2 : fX7_cover na nb nc nd T m x on = (m (303 + x.toNatClampNeg) 9, u2 (u2 m 0 20 0) (303 + x.toNatClampNeg) 9 on) := by
      unfold fX7_cover
      rw [if_neg (a2 _)]
      rcases b9 with q | q <;> rcases hon with q2 | q2 <;> rw [q, q2] <;> rfl
    have e1 : fX6_cover g x on = (0, m (303 + x.toNatClampNeg) 9, up g 3 (3 + x.toNatClampNeg) 9 on) := by
      unfold fX6_cover
      rw [if_pos a1, h.b3 hI a3 (by decide)]
    rw [e1, e2]
    dsimp only
    refine ⟨by rw [u2_nr (by omega), u2_eq]; rfl, fun _ => rfl, (h.th (v := 0)).u3b a3 z.2.2.1 (by decide), ?_, hT.up (by omega)⟩
    refine (hI.th (v := 0)).of ⟨by rw [u2_nr (show 0 ≠ 303 + x.toNatClampNeg by omega)]; exact Int.le_refl _, by rw [u2_nr (show 0 ≠ 303 + x.toNatClampNeg by omega), u2_nk (by decide)]; exact hI.2.1.2⟩ (fun i hi => u2_nr (by omega)) (fun i hi k _ => u2_nr (by omega)) (fun i hi => Or.inl (fun k _ => u2_nr (by omega))) (fun i hi => ?_) (fun i hi => Or.inl (fun k _ => u2_nr (by omega))) (sumK_same (hI.th (v := 0)) (fun i hi => u2_nr (by omega)))
    by_cases e : i = x.toNatClampNeg
    · subst e
      exact Or.inr (((hI.th (v := 0)).2.2.2.2.2.1 _ hi).t9 hon)
    · exact Or.inl (fun k _ => u2_nr (by omega))
  · have e1 : fX6_cover g x on = (1, 0, g) := by
      unfold fX6_cover
      rw [if_neg (by rw [a1]; decide), a1]
    have e2 : fX7_cover na nb nc nd T m x on = (0, u2 m 0 20 1) := by
      unfold fX7_cover
      rw [if_pos (a2 _)]
    rw [e1, e2]
    dsimp only
    exact ⟨by rw [u2_eq]; rfl, fun q => absurd q (by simp), h.th, hI.th, hT⟩
theorem P_cup (h : Rl na nb nc nd g m) (hI : Iv na nb nc nd m) (hT : Tr g) (x t : Int32) : Ok na nb nc nd (k13 (fX6_cup g x t).1) (fX6_cup g x t).1 (fX6_cup g x t).2.1 (fX6_cup g x t).2.2 (fX7_cup na nb nc nd T m x t).1 (fX7_cup na nb nc nd T m x t).2 := by
  unfold fX6_cup fX7_cup
  have z := hI.1
  rcases lot_is (T := T) h hI x with ⟨a1, a2, a3, a4⟩ | ⟨a1, a2⟩
  · rw [if_pos a1, if_neg (a2 _)]
    rcases taster_is (g := g) t with ⟨b1, b2, b3, b4⟩ | ⟨b1, b2⟩
    · rw [if_pos b1, if_neg b2, h.l3 hI a3 (by decide)]
      have hl := hI.2.2.2.2.2.2.1 _ a3
      by_cases c1 : m (308 + x.toNatClampNeg) 10 = 0
      · have c2 : fX7_isIn na nb nc nd T (u2 m 0 20 0) (308 + x.toNatClampNeg) = 0 := by unfold fX7_isIn; rw [u2_nr (by omega), if_neg (by rw [c1]; decide)]
        rw [if_pos c1, if_pos c2]; exact Ok.no (T := T) h hI hT (by simp) rfl
      · have c3 : m (308 + x.toNatClampNeg) 10 = 1 := hl.2.2.2.2.2.1.resolve_left c1
        have c2 : ¬ fX7_isIn na nb nc nd T (u2 m 0 20 0) (308 + x.toNatClampNeg) = 0 := by unfold fX7_isIn; rw [u2_nr (by omega), if_pos c3]; decide
        have hs : fX3_score g x.toNatClampNeg = fX7_scoreOf na nb nc nd T (u2 m 0 20 0) (308 + x.toNatClampNeg) := by
          have hI2 := (hI.th (v := 0)).2.2.2.2.2.2.1 _ a3
          refine score_eq (fun k hk => ?_) (fun f hf => ?_) z.1 hI2.2.2.2.1.1 ?_ hI2.2.2.1
          · rw [h.lr hI a3 hk, u2_nr (by omega)]
          · rw [h.2.2.1 f hf 0 (by decide), u2_nr (by omega)]; rfl
          · rw [u2_nr (by omega)]; exact hl.2.2.2.2.2.2 c3
        rw [if_neg c1, if_neg c2, hs, h.bi b3]
        dsimp only
        refine ⟨by rw [u2_nr (by omega), u2_eq]; rfl, fun _ => rfl, (h.th (v := 0)).u6 a3 z.2.2.2 b3, ?_, hT.up (by omega)⟩
        exact (hI.th (v := 0)).cg (u2_nr (by omega)) (fun i _ => u2_nr (by omega)) (fun i _ k _ => u2_nr (by omega)) (fun r k _ _ => u2_nr (by omega))
    · rw [if_neg (by rw [b1]; decide), if_pos b2, b1]; exact Ok.no (T := T) h hI hT (by simp) rfl
  · rw [if_neg (by rw [a1]; decide), if_pos (a2 _), a1]; exact Ok.no (T := T) h hI hT (by simp) rfl
end OP
