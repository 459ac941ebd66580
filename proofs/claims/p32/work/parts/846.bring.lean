/-! ===== bring ===== -/
section BR
variable {na nb nc nd : Nat} {g : Gd} {m : Md}
theorem Ok.val {kk : Int32} {cd : Nat} {v v2 : Int32} {g2 : Gd} {m2 : Md} (h : Ok na nb nc nd kk cd v g2 v2 m2) (k2 v3 v4 : Int32) (h1 : kk = k2) (h2 : cd = 0 → v3 = v4) : Ok na nb nc nd k2 cd v3 g2 v4 m2 := ⟨h.1.trans h1, h2, h.2.2⟩
theorem fill_at {x y z w : Int32} {b : Nat} : ∀ k, k < 6 → fX0_fill g b x y z w 2 b k = if k = 0 then x else if k = 1 then y else if k = 2 then z else if k = 5 then w else g 2 b k := by
  intro k hk
  unfold fX0_fill
  match k, hk with
  | 0, _ => simp [up]
  | 1, _ => simp [up]
  | 2, _ => simp [up]
  | 3, _ => simp [up]
  | 4, _ => simp [up]
  | 5, _ => simp [up]
theorem fill_o {x y z w : Int32} {b t i k : Nat} (h : ¬ (t = 2 ∧ i = b)) : fX0_fill g b x y z w t i k = g t i k := by
  unfold fX0_fill
  rw [up_ne (by omega), up_ne (by omega), up_ne (by omega), up_ne (by omega)]
theorem bring_core (h : Rl na nb nc nd g m) (hI : Iv na nb nc nd m) (hT : Tr g) {x fl hd rp c v : Int32} {M1 : Md} (hx : x.toNatClampNeg < na) (hx0 : 0 ≤ x.toInt) (hn : nb < 20) (h1 : 0 ≤ hd.toInt ∧ hd.toInt ≤ 200) (h2 : 0 ≤ rp.toInt ∧ rp.toInt ≤ 100) (hc : c = 0 ∨ c = 1) (e : ∀ r k, (r = 0 → k ≠ 20) → r ≠ 200 + nb → r < 400 → M1 r k = m r k) (er : ∀ k, M1 (200 + nb) k = if k = 0 then x else if k = 1 then hd else if k = 2 then rp else if k = 5 then c else 0) (e20 : M1 0 20 = 0) :
    Ok na (nb + 1) nc nd 0 0 v (up (up (up (up (up (fX0_fill g nb x hd rp c) 0 0 8 ((fX0_fill g nb x hd rp c) 0 0 8 + 1)) 0 0 3 ((fX0_fill g nb x hd rp c) 0 0 3 + fl)) 1 x.toNatClampNeg 3 ((fX0_fill g nb x hd rp c) 1 x.toNatClampNeg 3 + hd)) 1 x.toNatClampNeg 2 ((fX0_fill g nb x hd rp c) 1 x.toNatClampNeg 2 + hd * (fX0_fill g nb x hd rp c) 0 0 2)) 0 0 1 ((fX0_fill g nb x hd rp c) 0 0 1 - hd * (fX0_fill g nb x hd rp c) 0 0 2)) v
      (u2 (u2 (u2 (u2 M1 0 3 (M1 0 3 + fl)) (100 + x.toNatClampNeg) 3 (M1 (100 + x.toNatClampNeg) 3 + M1 (200 + nb) 1)) (100 + x.toNatClampNeg) 2 (M1 (100 + x.toNatClampNeg) 2 + M1 (200 + nb) 1 * M1 0 2)) 0 1 (M1 0 1 - M1 (200 + nb) 1 * M1 0 2)) := by
  obtain ⟨z, zh, i1, i2, i3, i4, i5, i6⟩ := id hI
  have r1 : M1 (200 + nb) 1 = hd := by rw [er, if_neg (by decide), if_pos rfl]
  rw [fill_o (by omega), fill_o (by omega), fill_o (by omega), fill_o (by omega), fill_o (by omega), fill_o (by omega), h.s (k := 3) (by decide), h.s (k := 2) (by decide), h.s (k := 1) (by decide), h.fa hI hx (k := 3) (by decide), h.fa hI hx (k := 2) (by decide), h.b, r1, e 0 3 (by omega) (by omega) (by omega), e 0 2 (by omega) (by omega) (by omega), e 0 1 (by omega) (by omega) (by omega), e (100 + x.toNatClampNeg) 3 (by omega) (by omega) (by omega), e (100 + x.toNatClampNeg) 2 (by omega) (by omega) (by omega), nI_1]
  have hR1 : Rl na (nb + 1) nc nd (up (fX0_fill g nb x hd rp c) 0 0 8 (nI (nb + 1))) M1 := by
    refine h.newB hn (fun t i k q1 q2 => ?_) (up_eq _ _ _ _ _) (fun k hk => ?_) (fun r k q1 q2 q3 => e r k (fun q => by have := q1 q; omega) q2 q3)
    · rw [up_ne (by omega), fill_o q1]
    · rw [up_nt (by decide), fill_at k hk, er, h.2.2.2.1 nb hn k hk, if_neg (Nat.lt_irrefl _)]
  refine ⟨?_, fun _ => rfl, (((hR1.u0 (by decide)).u1 hx z.1 (by decide)).u1 hx z.1 (by decide)).u0 (by decide), ?_, ?_⟩
  · rw [u2_nk (by decide), u2_nr (by omega), u2_nr (by omega), u2_nk (by decide), e20]
  · have hI1 : Iv na (nb + 1) nc nd M1 := by
      refine ⟨⟨z.1, by omega, z.2.2.1, z.2.2.2⟩, ?_, fun i hi => ?_, fun i hi => ?_, fun i hi => ?_, fun i hi => ?_, fun i hi => ?_, ?_⟩
      · rw [e 0 0 (by omega) (by omega) (by omega)]; exact zh
      · rw [e _ _ (by omega) (by omega) (by omega)]; exact i1 i hi
      · by_cases q : i = nb
        · subst q
          have ht := clamp_ti hx0
          refine ⟨?_, ?_, ?_, ?_⟩
          · rw [er, if_pos rfl]; omega
          · rw [r1]; exact h1
          · rw [er, if_neg (by decide), if_neg (by decide), if_pos rfl]; exact h2
          · rw [er, if_neg (by decide), if_neg (by decide), if_neg (by decide), if_pos rfl]; exact hc
        · exact (i2 i (by omega)).cg (Nat.le_refl _) (e _ _ (by omega) (by omega) (by omega)) (e _ _ (by omega) (by omega) (by omega)) (e _ _ (by omega) (by omega) (by omega)) (e _ _ (by omega) (by omega) (by omega))
      · exact (i3 i hi).cg (fun k _ => e _ _ (by omega) (by omega) (by omega)) (by rw [e 0 0 (by omega) (by omega) (by omega)]; exact Int.le_refl _)
      · exact (i4 i hi).cg (fun k _ => e _ _ (by omega) (by omega) (by omega)) (by rw [e 0 0 (by omega) (by omega) (by omega)]; exact Int.le_refl _)
      · exact (i5 i hi).cg (fun k _ => e _ _ (by omega) (by omega) (by omega)) (by rw [e 0 0 (by omega) (by omega) (by omega)]; exact Int.le_refl _)
      · exact sumK_same hI (fun i hi => e _ _ (by omega) (by omega) (by omega))
    have f : ∀ {M : Md} {r k : Nat} {w : Int32}, Iv na (nb + 1) nc nd M → (r = 0 ∨ r = 100 + x.toNatClampNeg) → k ≠ 0 → Iv na (nb + 1) nc nd (u2 M r k w) := fun hM hr hk => hM.cg (u2_nk (by omega)) (fun i _ => u2_nk (by omega)) (fun i _ k _ => u2_nr (by omega)) (fun r k _ _ => u2_nr (by omega))
    exact f (f (f (f hI1 (by omega) (by decide)) (by omega) (by decide)) (by omega) (by decide)) (by omega) (by decide)
  · refine ((((Tr.up ?_ (by omega)).up (by omega)).up (by omega)).up (by omega)).up (by omega)
    unfold Tr
    rw [fill_o (by omega)]; exact hT
theorem P_bring (h : Rl na nb nc nd g m) (hI : Iv na nb nc nd m) (hT : Tr g) (x ki ri : Int32) : Ok na (nb + (fX7_bring na nb nc nd 0 m x ki ri).2.2) nc nd (k12 (fX6_bring g x ki ri).1) (fX6_bring g x ki ri).1 (fX6_bring g x ki ri).2.1 (fX6_bring g x ki ri).2.2 (fX7_bring na nb nc nd 0 m x ki ri).1 (fX7_bring na nb nc nd 0 m x ki ri).2.1 := by
  unfold fX6_bring fX7_bring
  have z := hI.1
  rcases farm_is (T := 0) h hI x with ⟨a1, a2, a3, a4⟩ | ⟨a1, a2⟩
  · rw [if_pos a1, if_neg (a2 _)]
    rcases rng_is ki 1 200 with ⟨b1, b2, b3, b4⟩ | ⟨b1, b2⟩ | ⟨b1, b2, b3, b4⟩
    · rw [if_neg b1, if_neg b3, if_neg b4]
      rcases rng_is ri 0 100 with ⟨c1, c2, c3, c4⟩ | ⟨c1, c2⟩ | ⟨c1, c2, c3, c4⟩
      · rw [if_neg c1, if_pos c2, if_neg c4]
        have f := full_is (n := nb) (N := 20) z.2.1 (by decide)
        rcases (show (nI nb < 20 ∧ ¬ nI nb = 20 ∧ nb < 20) ∨ (¬ nI nb < 20 ∧ nI nb = 20) from f) with ⟨d1, d2, d3⟩ | ⟨d1, d2⟩
        · rw [h.b, if_pos d1, if_neg d2, nI_clamp (by omega), h.fa hI a3 (by decide), h.s (k := 0) (by decide), u2_nr (by omega), u2_nk (by decide)]
          have e1 : (1 : Int32).toInt = 1 := rfl
          have e0 : (0 : Int32).toInt = 0 := rfl
          have e100 : (100 : Int32).toInt = 100 := rfl
          have e200 : (200 : Int32).toInt = 200 := rfl
          rw [lt_ti, e1] at b1
          rw [le_ti, e200] at b2
          rw [lt_ti, e0] at c1
          rw [le_ti, e100] at c2
          have q1 : (100 - ri).toInt = 100 - ri.toInt := by rw [ti_sub (by rw [e100]; omega) (by rw [e100]; omega), e100]
          have q2 := mul_b (x := ki.toInt) (y := 100 - ri.toInt) (X := 200) (Y := 100) (by omega) b2 (by omega) (by omega)
          have q3 : (ki * (100 - ri)).toInt = ki.toInt * (100 - ri.toInt) := by rw [ti_mul (by rw [q1]; omega) (by rw [q1]; omega), q1]
          have q4 : ((ki * (100 - ri)) / 200).toInt = ki.toInt * (100 - ri.toInt) / 200 := by rw [ti_div (by rw [q3]; omega) (by decide), q3, e200]
          have q5 : 0 ≤ ki.toInt * (100 - ri.toInt) / 200 := Int.ediv_nonneg (by omega) (by decide)
          have q6 : ki.toInt * (100 - ri.toInt) / 200 ≤ ki.toInt := by
            refine Int.ediv_le_of_le_mul (by decide) ?_
            have := Int.mul_le_mul_of_nonneg_left (a := 100 - ri.toInt) (b := 200) (c := ki.toInt) (by omega) (by omega)
            exact this
          have q7 : (ki - (ki * (100 - ri)) / 200).toInt = ki.toInt - ki.toInt * (100 - ri.toInt) / 200 := by rw [ti_sub (by rw [q4]; omega) (by rw [q4]; omega), q4]
          have er : rb 1 = 200 := rfl
          rw [er]
          have key : ∀ c : Int32, c = 0 ∨ c = 1 → Ok na (nb + 1) nc nd 0 0 0 (up (up (up (up (up (fX0_fill g nb x (ki - (ki * (100 - ri)) / 200) ri c) 0 0 8 ((fX0_fill g nb x (ki - (ki * (100 - ri)) / 200) ri c) 0 0 8 + 1)) 0 0 3 ((fX0_fill g nb x (ki - (ki * (100 - ri)) / 200) ri c) 0 0 3 + (ki * (100 - ri)) / 200)) 1 x.toNatClampNeg 3 ((fX0_fill g nb x (ki - (ki * (100 - ri)) / 200) ri c) 1 x.toNatClampNeg 3 + (ki - (ki * (100 - ri)) / 200))) 1 x.toNatClampNeg 2 ((fX0_fill g nb x (ki - (ki * (100 - ri)) / 200) ri c) 1 x.toNatClampNeg 2 + (ki - (ki * (100 - ri)) / 200) * (fX0_fill g nb x (ki - (ki * (100 - ri)) / 200) ri c) 0 0 2)) 0 0 1 ((fX0_fill g nb x (ki - (ki * (100 - ri)) / 200) ri c) 0 0 1 - (ki - (ki * (100 - ri)) / 200) * (fX0_fill g nb x (ki - (ki * (100 - ri)) / 200) ri c) 0 0 2)) 0
              (u2 (u2 (u2 (u2 (rz (u2 (u2 (u2 (u2 (rz (u2 m 0 20 0) (400 + 0) (fun _ => 0)) (400 + 0) 0 x) (400 + 0) 1 (ki - (ki * (100 - ri)) / 200)) (400 + 0) 2 ri) (400 + 0) 5 c) (200 + nb) (fun j => (u2 (u2 (u2 (u2 (rz (u2 m 0 20 0) (400 + 0) (fun _ => 0)) (400 + 0) 0 x) (400 + 0) 1 (ki - (ki * (100 - ri)) / 200)) (400 + 0) 2 ri) (400 + 0) 5 c) (400 + 0) j)) 0 3 ((rz (u2 (u2 (u2 (u2 (rz (u2 m 0 20 0) (400 + 0) (fun _ => 0)) (400 + 0) 0 x) (400 + 0) 1 (ki - (ki * (100 - ri)) / 200)) (400 + 0) 2 ri) (400 + 0) 5 c) (200 + nb) (fun j => (u2 (u2 (u2 (u2 (rz (u2 m 0 20 0) (400 + 0) (fun _ => 0)) (400 + 0) 0 x) (400 + 0) 1 (ki - (ki * (100 - ri)) / 200)) (400 + 0) 2 ri) (400 + 0) 5 c) (400 + 0) j)) 0 3 + (ki * (100 - ri)) / 200)) (100 + x.toNatClampNeg) 3 ((rz (u2 (u2 (u2 (u2 (rz (u2 m 0 20 0) (400 + 0) (fun _ => 0)) (400 + 0) 0 x) (400 + 0) 1 (ki - (ki * (100 - ri)) / 200)) (400 + 0) 2 ri) (400 + 0) 5 c) (200 + nb) (fun j => (u2 (u2 (u2 (u2 (rz (u2 m 0 20 0) (400 + 0) (fun _ => 0)) (400 + 0) 0 x) (400 + 0) 1 (ki - (ki * (100 - ri)) / 200)) (400 + 0) 2 ri) (400 + 0) 5 c) (400 + 0) j)) (100 + x.toNatClampNeg) 3 + (rz (u2 (u2 (u2 (u2 (rz (u2 m 0 20 0) (400 + 0) (fun _ => 0)) (400 + 0) 0 x) (400 + 0) 1 (ki - (ki * (100 - ri)) / 200)) (400 + 0) 2 ri) (400 + 0) 5 c) (200 + nb) (fun j => (u2 (u2 (u2 (u2 (rz (u2 m 0 20 0) (400 + 0) (fun _ => 0)) (400 + 0) 0 x) (400 + 0) 1 (ki - (ki * (100 - ri)) / 200)) (400 + 0) 2 ri) (400 + 0) 5 c) (400 + 0) j)) (200 + nb) 1)) (100 + x.toNatClampNeg) 2 ((rz (u2 (u2 (u2 (u2 (rz (u2 m 0 20 0) (400 + 0) (fun _ => 0)) (400 + 0) 0 x) (400 + 0) 1 (ki - (ki * (100 - ri)) / 200)) (400 + 0) 2 ri) (400 + 0) 5 c) (200 + nb) (fun j => (u2 (u2 (u2 (u2 (rz (u2 m 0 20 0) (400 + 0) (fun _ => 0)) (400 + 0) 0 x) (400 + 0) 1 (ki - (ki * (100 - ri)) / 200)) (400 + 0) 2 ri) (400 + 0) 5 c) (400 + 0) j)) (100 + x.toNatClampNeg) 2 + (rz (u2 (u2 (u2 (u2 (rz (u2 m 0 20 0) (400 + 0) (fun _ => 0)) (400 + 0) 0 x) (400 + 0) 1 (ki - (ki * (100 - ri)) / 200)) (400 + 0) 2 ri) (400 + 0) 5 c) (200 + nb) (fun j => (u2 (u2 (u2 (u2 (rz (u2 m 0 20 0) (400 + 0) (fun _ => 0)) (400 + 0) 0 x) (400 + 0) 1 (ki - (ki * (100 - ri)) / 200)) (400 + 0) 2 ri) (400 + 0) 5 c) (400 + 0) j)) (200 + nb) 1 * (rz (u2 (u2 (u2 (u2 (rz (u2 m 0 20 0) (400 + 0) (fun _ => 0)) (400 + 0) 0 x) (400 + 0) 1 (ki - (ki * (100 - ri)) / 200)) (400 + 0) 2 ri) (400 + 0) 5 c) (200 + nb) (fun j => (u2 (u2 (u2 (u2 (rz (u2 m 0 20 0) (400 + 0) (fun _ => 0)) (400 + 0) 0 x) (400 + 0) 1 (ki - (ki * (100 - ri)) / 200)) (400 + 0) 2 ri) (400 + 0) 5 c) (400 + 0) j)) 0 2)) 0 1 ((rz (u2 (u2 (u2 (u2 (rz (u2 m 0 20 0) (400 + 0) (fun _ => 0)) (400 + 0) 0 x) (400 + 0) 1 (ki - (ki * (100 - ri)) / 200)) (400 + 0) 2 ri) (400 + 0) 5 c) (200 + nb) (fun j => (u2 (u2 (u2 (u2 (rz (u2 m 0 20 0) (400 + 0) (fun _ => 0)) (400 + 0) 0 x) (400 + 0) 1 (ki - (ki * (100 - ri)) / 200)) (400 + 0) 2 ri) (400 + 0) 5 c) (400 + 0) j)) 0 1 - (rz (u2 (u2 (u2 (u2 (rz (u2 m 0 20 0) (400 + 0) (fun _ => 0)) (400 + 0) 0 x) (400 + 0) 1 (ki - (ki * (100 - ri)) / 200)) (400 + 0) 2 ri) (400 + 0) 5 c) (200 + nb) (fun j => (u2 (u2 (u2 (u2 (rz (u2 m 0 20 0) (400 + 0) (fun _ => 0)) (400 + 0) 0 x) (400 + 0) 1 (ki - (ki * (100 - ri)) / 200)) (400 + 0) 2 ri) (400 + 0) 5 c) (400 + 0) j)) (200 + nb) 1 * (rz (u2 (u2 (u2 (u2 (rz (u2 m 0 20 0) (400 + 0) (fun _ => 0)) (400 + 0) 0 x) (400 + 0) 1 (ki - (ki * (100 - ri)) / 200)) (400 + 0) 2 ri) (400 + 0) 5 c) (200 + nb) (fun j => (u2 (u2 (u2 (u2 (rz (u2 m 0 20 0) (400 + 0) (fun _ => 0)) (400 + 0) 0 x) (400 + 0) 1 (ki - (ki * (100 - ri)) / 200)) (400 + 0) 2 ri) (400 + 0) 5 c) (400 + 0) j)) 0 2)) := by
            intro c hc
            refine bring_core h hI hT a3 a4 d3 (by rw [q7]; omega) ⟨by omega, c2⟩ hc (fun r k p1 p2 p3 => ?_) (fun k => ?_) ?_
            · rw [rz_nr p2, u2_nr (by omega), u2_nr (by omega), u2_nr (by omega), u2_nr (by omega), rz_nr (by omega)]
              by_cases q : r = 0
              · subst q; rw [u2_nk (p1 rfl)]
              · rw [u2_nr q]
            · rw [rz_eq]
              by_cases k5 : k = 5
              · subst k5; rw [u2_eq]; rfl
              · rw [u2_nk k5]
                by_cases k2 : k = 2
                · subst k2; rw [u2_eq]; rfl
                · rw [u2_nk k2]
                  by_cases k1 : k = 1
                  · subst k1; rw [u2_eq]; rfl
                  · rw [u2_nk k1]
                    by_cases k0 : k = 0
                    · subst k0; rw [u2_eq]; rfl
                    · rw [u2_nk k0, if_neg k0, if_neg k1, if_neg k2, if_neg k5, rz_eq]
            · rw [rz_nr (by omega), u2_nr (by omega), u2_nr (by omega), u2_nr (by omega), u2_nr (by omega), rz_nr (by omega), u2_eq]
          by_cases w : m (100 + x.toNatClampNeg) 1 < m 0 0 / 24
          · rw [if_pos w, if_pos w]
            exact (key 0 (Or.inl rfl)).val _ _ _ rfl (fun _ => by rw [fill_o (by omega), h.b, nI_1])
          · rw [if_neg w, if_neg w]
            exact (key 1 (Or.inr rfl)).val _ _ _ rfl (fun _ => by rw [fill_o (by omega), h.b, nI_1])
        · rw [h.b, if_neg d1, if_pos d2]; exact Ok.no (T := 0) h hI hT (by simp) rfl
      · rw [if_pos c1, if_pos c2]; exact Ok.no (T := 0) h hI hT (by simp) rfl
      · rw [if_neg c1, if_neg c2, if_pos c4]; exact Ok.no (T := 0) h hI hT (by simp) rfl
    · rw [if_pos b1, if_pos b2]; exact Ok.no (T := 0) h hI hT (by simp) rfl
    · rw [if_neg b1, if_pos b3, if_pos b4]; exact Ok.no (T := 0) h hI hT (by simp) rfl
  · rw [if_neg (show ¬ fX6_farmAt g x = 0 by rw [a1]; decide), if_pos (a2 _), a1]; exact Ok.no (T := 0) h hI hT (by simp) rfl
end BR
