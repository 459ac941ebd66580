/-! ===== sell ===== -/
section SL
variable {na nb nc nd T : Nat} {g g2 : Gd} {m m2 : Md}
theorem sum17 {r : Nat} : fX7_sum na nb nc nd T m r 17 = (((((0 + m r 17) + m r 18) + m r 19) + m r 20) + m r 21) + m r 22 := rfl
theorem grade_cg {x : Int32} (h : ∀ k, k < 3 → m2 (340 + x.toNatClampNeg) k = m (340 + x.toNatClampNeg) k) : fX7_gradeOf na nb nc nd T m2 x = fX7_gradeOf na nb nc nd T m x := by
  unfold fX7_gradeOf
  rw [h 0 (by decide), h 1 (by decide), h 2 (by decide)]
theorem brings_cg {x pr lb : Int32} (h : ∀ k, k < 23 → m2 (308 + x.toNatClampNeg) k = m (308 + x.toNatClampNeg) k) (h6 : ∀ k, k < 3 → m2 (340 + x.toNatClampNeg) k = m (340 + x.toNatClampNeg) k) : fX7_brings na nb nc nd T m2 x pr lb = fX7_brings na nb nc nd T m x pr lb := by
  unfold fX7_brings
  rw [sum17, sum17, grade_cg h6, h 0 (by decide), h 17 (by decide), h 18 (by decide), h 19 (by decide), h 20 (by decide), h 21 (by decide), h 22 (by decide)]
theorem sell_loop {x pr lb : Int32} (hx : x.toNatClampNeg < nd) (hp0 : 0 ≤ pr.toInt) (hp : pr.toInt ≤ 200) {m0 : Md} {B : Int32} (hB : fX3_worth g x.toNatClampNeg pr lb = B) (hB0 : fX7_brings na nb nc nd T m0 x pr lb = B) (hk : 0 < (m0 (308 + x.toNatClampNeg) 0).toInt) :
    ∀ (n f k : Nat) (rest : Int32) (g1 : Gd) (m1 : Md), k + n = na → n < f → Rl na nb nc nd g1 m1 → Iv na nb nc nd m1 → Tr g1 → (∀ r k, 300 ≤ r → m1 r k = m0 r k) →
      (fX6_sell_L29 g x pr lb f k rest g1).1 = (fX7_sell_L62 na nb nc nd T m x pr lb n k rest m1).1 ∧ Rl na nb nc nd (fX6_sell_L29 g x pr lb f k rest g1).2 (fX7_sell_L62 na nb nc nd T m x pr lb n k rest m1).2 ∧ Iv na nb nc nd (fX7_sell_L62 na nb nc nd T m x pr lb n k rest m1).2 ∧ Tr (fX6_sell_L29 g x pr lb f k rest g1).2 ∧ (∀ r k2, r = 0 ∨ 300 ≤ r → (fX7_sell_L62 na nb nc nd T m x pr lb n k rest m1).2 r k2 = m1 r k2) := by
  intro n
  induction n with
  | zero =>
    intro f k rest g1 m1 hkn hf hR hI hT e
    obtain ⟨f, rfl⟩ : ∃ f', f = f' + 1 := ⟨f - 1, by omega⟩
    have hc : g1 0 0 7 ≤ nI k := by
      rw [hR.a, show k = na by omega]; exact Int32.le_refl _
    rw [fX6_sell_L29, if_pos hc]
    exact ⟨rfl, hR, hI, hT, fun _ _ _ => rfl⟩
  | succ n ih =>
    intro f k rest g1 m1 hkn hf hR hI hT e
    obtain ⟨f, rfl⟩ : ∃ f', f = f' + 1 := ⟨f - 1, by omega⟩
    have z := hI.1
    have hc : ¬ g1 0 0 7 ≤ nI k := by
      rw [hR.a]; exact nI_ge (by omega) (by omega)
    have hs : fX3_shareOf g1 x.toNatClampNeg (nI k) B = fX7_share na nb nc nd T m1 x (nI k) pr lb := by
      rw [← hB0, ← brings_cg (m2 := m1) (m := m0) (fun k _ => e _ k (by omega)) (fun k _ => e _ k (by omega))]
      refine share_eq (fun k hk => hR.lr hI hx hk) (hI.2.2.2.2.2.2.1 _ hx).1 ?_ ?_ hp0 hp
      · rw [e _ _ (by omega)]; exact hk
      · rw [nI_clamp (by omega)]; omega
    rw [fX6_sell_L29, if_neg hc, fX7_sell_L62, hB, hs, hR.fa hI (show k < na by omega) (k := 2) (by decide)]
    obtain ⟨q1, q2, q3, q4, q5⟩ := ih f (k + 1) (rest - fX7_share na nb nc nd T m1 x (nI k) pr lb) (up g1 1 k 2 (m1 (100 + k) 2 + fX7_share na nb nc nd T m1 x (nI k) pr lb)) (u2 m1 (100 + k) 2 (m1 (100 + k) 2 + fX7_share na nb nc nd T m1 x (nI k) pr lb)) (by omega) (by omega) (hR.u1 (by omega) z.1 (by decide)) (hI.cg (u2_nr (by omega)) (fun i _ => u2_nk (by decide)) (fun i _ k _ => u2_nr (by omega)) (fun r k _ _ => u2_nr (by omega))) (hT.up (by omega)) (fun r k2 hr => by rw [u2_nr (by omega)]; exact e r k2 hr)
    exact ⟨q1, q2, q3, q4, fun r k2 hr => by rw [q5 r k2 hr, u2_nr (by omega)]⟩
theorem lotI.out {i : Nat} (b : lotI m i) : lotI (u2 m (308 + i) 10 0) i := by
  obtain ⟨c1, c2, c3, c4, c5, c6, c7⟩ := b
  have e : ∀ k, k ≠ 10 → u2 m (308 + i) 10 0 (308 + i) k = m (308 + i) k := fun k h => u2_nk h
  have e0 : u2 m (308 + i) 10 0 0 0 = m 0 0 := u2_nr (by omega)
  refine ⟨c1.cg2 (fun k _ h => e k (by omega)), c2.cg (e 3 (by decide)) (by rw [e0]; exact Int.le_refl _), ?_, ?_, ?_, ?_, fun z => ?_⟩
  · unfold mtI; rw [e 4 (by decide)]; exact c3
  · unfold moI; rw [e 5 (by decide), e 7 (by decide), e0]; exact c4
  · rw [e 2 (by decide), e0]; exact c5
  · rw [u2_eq]; exact Or.inl rfl
  · rw [u2_eq] at z; exact absurd z (by decide)
theorem sale_is (h : Rl na nb nc nd g m) (hI : Iv na nb nc nd m) {x pr : Int32} (hx : x.toNatClampNeg < nd) {m9 : Md} (e : ∀ r k, 100 ≤ r → m9 r k = m r k) : (fX6_needSale g x.toNatClampNeg pr = 0 ∧ ¬ fX7_is pr 1 200 = 0 ∧ ¬ fX7_canSell na nb nc nd T m9 x = 0 ∧ m (308 + x.toNatClampNeg) 10 = 1 ∧ 1 ≤ pr.toInt ∧ pr.toInt ≤ 200) ∨ (fX6_needSale g x.toNatClampNeg pr = 2 ∧ fX7_is pr 1 200 = 0) ∨ (fX6_needSale g x.toNatClampNeg pr = 3 ∧ ¬ fX7_is pr 1 200 = 0 ∧ fX7_canSell na nb nc nd T m9 x = 0) := by
  have a := (hI.2.2.2.2.2.2.1 _ hx).2.2.2.2.2.1
  have e1 : (1 : Int32).toInt = 1 := rfl
  have e200 : (200 : Int32).toInt = 200 := rfl
  have hg : fX3_grade g x.toNatClampNeg = fX7_gradeOf na nb nc nd T m9 x := grade_eq (fun k hk => by rw [e _ _ (by omega)]; exact h.rd hI hx hk)
  unfold fX6_needSale fX7_canSell fX7_isIn
  rw [h.l3 hI hx (k := 10) (by decide), e _ 10 (by omega), hg]
  rcases rng_is pr 1 200 with ⟨b1, b2, b3, b4⟩ | ⟨b1, b2⟩ | ⟨b1, b2, b3, b4⟩
  · rw [if_neg b1, if_pos b2]
    rcases a with a | a
    · exact Or.inr (Or.inr ⟨by rw [if_pos a], b4, by rw [if_neg (show ¬ m (308 + x.toNatClampNeg) 10 = 1 by rw [a]; decide), if_pos rfl]⟩)
    · by_cases q : fX7_gradeOf na nb nc nd T m9 x = -1
      · exact Or.inr (Or.inr ⟨by rw [if_neg (by rw [a]; decide), if_pos q], b4, by rw [if_pos a, if_neg (by decide), if_pos q]⟩)
      · refine Or.inl ⟨by rw [if_neg (by rw [a]; decide), if_neg q], b4, by rw [if_pos a, if_neg (by decide), if_neg q]; decide, a, ?_, ?_⟩
        · rw [lt_ti, e1] at b1; omega
        · rw [le_ti, e200] at b2; exact b2
  · exact Or.inr (Or.inl ⟨by rw [if_pos b1], b2⟩)
  · exact Or.inr (Or.inl ⟨by rw [if_neg b1, if_neg b2], b4⟩)
theorem P_sell (h : Rl na nb nc nd g m) (hI : Iv na nb nc nd m) (hT : Tr g) (x pr lb : Int32) : Ok na nb nc nd (k12 (fX6_sell g x pr lb).1) (fX6_sell g x pr lb).1 (fX6_sell g x pr lb).2.1 (fX6_sell g x pr lb).2.2 (fX7_sell na nb nc nd T m x pr lb).1 (fX7_sell na nb nc nd T m x pr lb).2 := by
  unfold fX6_sell fX7_sell
  have z := hI.1
  rcases lot_is (T := T) h hI x with ⟨a1, a2, a3, a4⟩ | ⟨a1, a2⟩
  · rw [if_pos a1, if_neg (a2 _)]
    rcases sale_is (T := T) (pr := pr) h hI a3 (m9 := u2 m 0 20 0) (fun r k q => u2_nr (by omega)) with ⟨b1, b2, b3, b4, b5, b6⟩ | ⟨b1, b2⟩ | ⟨b1, b2, b3⟩
    · rw [if_pos b1, if_neg b2, if_neg b3]
      have hR0 := h.th (v := 0)
      have hI0 := hI.th (v := 0)
      have lx := hI.2.2.2.2.2.2.1 _ a3
      have hB : fX3_worth g x.toNatClampNeg pr lb = fX7_brings na nb nc nd T (u2 m 0 20 0) x pr lb := worth_eq (fun k hk => hR0.lr hI0 a3 hk) (fun k hk => hR0.rd hI0 a3 hk)
      obtain ⟨q1, q2, q3, q4, q5⟩ := sell_loop (m := m) (T := T) (lb := lb) (m0 := u2 m 0 20 0) a3 (by omega) b6 hB rfl (by rw [u2_nr (by omega)]; exact lx.2.2.2.2.2.2 b4) na 7 0 (fX7_brings na nb nc nd T (u2 m 0 20 0) x pr lb) g (u2 m 0 20 0) (by omega) (by omega) hR0 hI0 hT (fun _ _ _ => rfl)
      rw [hB]
      generalize fX6_sell_L29 g x pr lb 7 0 (fX7_brings na nb nc nd T (u2 m 0 20 0) x pr lb) g = C at q1 q2 q4
      generalize fX7_sell_L62 na nb nc nd T m x pr lb na 0 (fX7_brings na nb nc nd T (u2 m 0 20 0) x pr lb) (u2 m 0 20 0) = R at q1 q2 q3 q5
      dsimp only
      rw [q1, q2.s (k := 1) (by decide), q2.s (k := 4) (by decide), q2.l3 q3 a3 (k := 0) (by decide)]
      refine ⟨?_, fun _ => rfl, ((q2.u0 (by decide)).u0 (by decide)).u3l a3 z.2.2.2 (by decide), ?_, ?_⟩
      · rw [u2_nr (by omega), u2_nk (by decide), u2_nk (by decide), q5 _ _ (Or.inl rfl), u2_eq]; rfl
      · have hI1 : Iv na nb nc nd (u2 (u2 R.2 0 1 (R.2 0 1 + R.1)) 0 4 (R.2 0 4 + R.2 (308 + x.toNatClampNeg) 0)) := (q3.cg (u2_nk (by decide)) (fun i _ => u2_nr (by omega)) (fun i _ k _ => u2_nr (by omega)) (fun r k _ _ => u2_nr (by omega))).cg (u2_nk (by decide)) (fun i _ => u2_nr (by omega)) (fun i _ k _ => u2_nr (by omega)) (fun r k _ _ => u2_nr (by omega))
        generalize u2 (u2 R.2 0 1 (R.2 0 1 + R.1)) 0 4 (R.2 0 4 + R.2 (308 + x.toNatClampNeg) 0) = M at hI1
        refine hI1.of ⟨by rw [u2_nr (by omega)]; exact Int.le_refl _, by rw [u2_nr (by omega)]; exact hI1.2.1.2⟩ (fun i hi => u2_nr (by omega)) (fun i hi k _ => u2_nr (by omega)) (fun i hi => Or.inl (fun k _ => u2_nr (by omega))) (fun i hi => Or.inl (fun k _ => u2_nr (by omega))) (fun i hi => ?_) (sumK_same hI1 (fun i hi => u2_nk (by decide)))
        by_cases e : i = x.toNatClampNeg
        · subst e
          exact Or.inr (hI1.2.2.2.2.2.2.1 _ hi).out
        · exact Or.inl (fun k _ => u2_nr (by omega))
      · exact ((q4.up (by omega)).up (by omega)).up (by omega)
    · rw [if_neg (by rw [b1]; decide), if_pos b2, b1]; exact Ok.no (T := T) h hI hT (by simp) rfl
    · rw [if_neg (by rw [b1]; decide), if_neg b2, if_pos b3, b1]; exact Ok.no (T := T) h hI hT (by simp) rfl
  · rw [if_neg (by rw [a1]; decide), if_pos (a2 _), a1]; exact Ok.no (T := T) h hI hT (by simp) rfl
end SL
