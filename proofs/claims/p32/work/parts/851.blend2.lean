/-! ===== blend and sell ===== -/
def blZ (m : Md) (r : Nat) : Md := (u2 (u2 (u2 (u2 (u2 (u2 (u2 (u2 (u2 (u2 (u2 (u2 (u2 (u2 (u2 m r 0 0) r 1 0) r 10 0) r 11 0) r 12 0) r 13 0) r 14 0) r 15 0) r 16 0) r 17 0) r 18 0) r 19 0) r 20 0) r 21 0) r 22 0)
theorem blend_form (na nb nc nd T : Nat) (g : Md) (x y : Int32) : fX7_blend na nb nc nd T g x y = if (fX7_isLot na nb nc nd T (u2 g 0 20 0) x) = 0 then (((fX7_refuse na nb nc nd T (u2 g 0 20 0) 1).1, (fX7_refuse na nb nc nd T (u2 g 0 20 0) 1).2)) else (if (fX7_isLot na nb nc nd T (u2 g 0 20 0) y) = 0 then (((fX7_refuse na nb nc nd T (u2 g 0 20 0) 1).1, (fX7_refuse na nb nc nd T (u2 g 0 20 0) 1).2)) else (if x = y then (((fX7_refuse na nb nc nd T (u2 g 0 20 0) 2).1, (fX7_refuse na nb nc nd T (u2 g 0 20 0) 2).2)) else (if (fX7_canBlend na nb nc nd T (u2 g 0 20 0) (308 + x.toNatClampNeg) (308 + y.toNatClampNeg)) = 0 then (((fX7_refuse na nb nc nd T (u2 g 0 20 0) 3).1, (fX7_refuse na nb nc nd T (u2 g 0 20 0) 3).2)) else (((blZ (fX7_forget na nb nc nd T (fX7_forget na nb nc nd T (rz (fX7_blendOf na nb nc nd T (u2 g 0 20 0) (308 + x.toNatClampNeg) (308 + y.toNatClampNeg)) (308 + x.toNatClampNeg) (fun j => (fX7_blendOf na nb nc nd T (u2 g 0 20 0) (308 + x.toNatClampNeg) (308 + y.toNatClampNeg)) (400 + T) j)) x) y) (308 + y.toNatClampNeg)) (308 + x.toNatClampNeg) 0, (blZ (fX7_forget na nb nc nd T (fX7_forget na nb nc nd T (rz (fX7_blendOf na nb nc nd T (u2 g 0 20 0) (308 + x.toNatClampNeg) (308 + y.toNatClampNeg)) (308 + x.toNatClampNeg) (fun j => (fX7_blendOf na nb nc nd T (u2 g 0 20 0) (308 + x.toNatClampNeg) (308 + y.toNatClampNeg)) (400 + T) j)) x) y) (308 + y.toNatClampNeg))))))) := rfl
section B2
variable {na nb nc nd T : Nat} {g g2 : Gd} {m m2 : Md}
theorem blZ_at {r : Nat} : ∀ k, k < 23 → blZ m r r k = if k = 0 ∨ k = 1 ∨ k = 10 ∨ 11 ≤ k then 0 else m r k := by
  refine all23 ?_ ?_ ?_ ?_ ?_ ?_ ?_ ?_ ?_ ?_ ?_ ?_ ?_ ?_ ?_ ?_ ?_ ?_ ?_ ?_ ?_ ?_ ?_ <;> simp [blZ, u2]
theorem blZ_nr {r r2 k : Nat} (h : r2 ≠ r) : blZ m r r2 k = m r2 k := by
  unfold blZ
  simp only [u2_nr h]
theorem can_is (h : Rl na nb nc nd g m) (hI : Iv na nb nc nd m) {i o : Nat} (hi : i < nd) (ho : o < nd) {m9 : Md} (e : ∀ r k, 100 ≤ r → m9 r k = m r k) : (fX3_canBlendWith g i o = 0 ∧ fX7_canBlend na nb nc nd T m9 (308 + i) (308 + o) = 0) ∨ (fX3_canBlendWith g i o = 1 ∧ fX7_canBlend na nb nc nd T m9 (308 + i) (308 + o) = 1 ∧ m (308 + i) 10 = 1 ∧ m (308 + o) 10 = 1) := by
  have a := (hI.2.2.2.2.2.2.1 i hi).2.2.2.2.2.1
  have b := (hI.2.2.2.2.2.2.1 o ho).2.2.2.2.2.1
  unfold fX3_canBlendWith fX7_canBlend fX7_isIn
  rw [h.l3 hI hi (k := 10) (by decide), h.l3 hI ho (k := 10) (by decide), h.l3 hI hi (k := 4) (by decide), h.l3 hI ho (k := 4) (by decide), e _ 10 (by omega), e (308 + o) 10 (by omega), e _ 4 (by omega), e (308 + o) 4 (by omega)]
  rcases a with a | a
  · exact Or.inl (by simp [a])
  · rcases b with b | b
    · exact Or.inl (by simp [a, b])
    · by_cases q : m (308 + i) 4 = m (308 + o) 4
      · exact Or.inr (by simp [a, b, q])
      · exact Or.inl (by simp [a, b, q])
theorem forget_is {i : Nat} {M : Md} {x : Int32} (hx : x.toNatClampNeg = i) : fX7_forget na nb nc nd T M x = u2 (u2 (u2 M (340 + i) 0 (-1)) (340 + i) 1 (-1)) (340 + i) 2 (-1) := by subst hx; rfl
theorem Rl.forget (h : Rl na nb nc nd g m) {i : Nat} {x : Int32} (hi : i < nd) (hn : nd ≤ 12) (hx : x.toNatClampNeg = i) : Rl na nb nc nd (fX3_forgetReadings g i) (fX7_forget na nb nc nd T m x) := by
  rw [forget_is hx]
  exact ((h.u6 hi hn (by decide)).u6 hi hn (by decide)).u6 hi hn (by decide)
theorem P_blend (h : Rl na nb nc nd g m) (hI : Iv na nb nc nd m) (hT : Tr g) (x y : Int32) : Ok na nb nc nd (k12 (fX6_blend g x y).1) (fX6_blend g x y).1 (fX6_blend g x y).2.1 (fX6_blend g x y).2.2 (fX7_blend na nb nc nd 0 m x y).1 (fX7_blend na nb nc nd 0 m x y).2 := by
  rw [blend_form]
  unfold fX6_blend
  obtain ⟨z, zh, i1, i2, i3, i4, i5, i6⟩ := id hI
  rcases lot_is (T := 0) h hI x with ⟨a1, a2, a3, a4⟩ | ⟨a1, a2⟩
  · rw [if_pos a1, if_neg (a2 _)]
    rcases lot_is (T := 0) h hI y with ⟨b1, b2, b3, b4⟩ | ⟨b1, b2⟩
    · rw [if_pos b1, if_neg (b2 _)]
      by_cases hxy : x = y
      · rw [if_pos hxy, if_pos hxy]; exact Ok.no (T := 0) h hI hT (by simp) rfl
      · rw [if_neg hxy, if_neg hxy]
        rcases can_is (T := 0) h hI a3 b3 (m9 := u2 m 0 20 0) (fun r k q => u2_nr (by omega)) with ⟨c1, c2⟩ | ⟨c1, c2, c3, c4⟩
        · rw [if_pos c1, if_pos c2]; exact Ok.no (T := 0) h hI hT (by simp) rfl
        · rw [if_neg (by rw [c1]; decide), if_neg (by rw [c2]; decide)]
          have ex := clamp_ti a4
          have ey := clamp_ti b4
          have hne : x.toNatClampNeg ≠ y.toNatClampNeg := fun q => hxy (ti_eq (by omega))
          have hex : x.toNatClampNeg = x.toNatClampNeg := rfl
          have hey : y.toNatClampNeg = y.toNatClampNeg := rfl
          generalize hX : x.toNatClampNeg = X at a3 c1 c2 c3 c4 hne hex ex b3
          generalize hY : y.toNatClampNeg = Y at b3 c1 c2 c3 c4 hne hey ey
          dsimp only
          have lx := i5 X a3
          have ly := i5 Y b3
          have px := lx.2.2.2.2.2.2 c3
          have py := ly.2.2.2.2.2.2 c4
          have nn : ∀ i, i < nd → 0 ≤ kiL m i := fun i hi => (i5 i hi).1.k0.1
          have two := sumF_two (f := kiL m) (n := nd) nn a3 b3 hne
          have hsum : (m (308 + X) 0).toInt + (m (308 + Y) 0).toInt ≤ 1800 := by
            have : (m (308 + X) 0).toInt + (m (308 + Y) 0).toInt ≤ sumF (kiL m) nd := two
            omega
          have hI0 := hI.th (v := 0)
          have hR0 := h.th (v := 0)
          have kx := lx.1.k0
          have ky := ly.1.k0
          have hk : ¬ u2 m 0 20 0 (308 + X) 0 + u2 m 0 20 0 (308 + Y) 0 ≤ 0 := by
            rw [u2_nr (by omega), u2_nr (by omega)]; exact pos_le (by omega) (by omega)
          have hrow := takeIn_eq (na := na) (nb := nb) (nc := nc) (nd := nd) (T := 0) (g := g) (m := u2 m 0 20 0) (i := X) (o := Y) (r := 308 + X) (p := 308 + Y) (fun k hk => hR0.lr hI0 a3 hk) (fun k hk => hR0.lr hI0 b3 hk) hne (by omega) (by omega) hk
          have oT := takeIn_o g X Y
          have bnr : ∀ r k, r < 400 → fX7_blendOf na nb nc nd 0 (u2 m 0 20 0) (308 + X) (308 + Y) r k = u2 m 0 20 0 r k := fun r k q => blendOf_nr (by omega)
          generalize hB : fX7_blendOf na nb nc nd 0 (u2 m 0 20 0) (308 + X) (308 + Y) = B at hrow bnr
          have hR1 : Rl na nb nc nd (fX3_takeIn g X Y) (rz B (308 + X) (fun j => B (400 + 0) j)) := by
            refine hR0.row (j := 8 + X) (by omega) oT (fun i q _ => by omega) (fun i q => by omega) (fun k hk => ?_) (fun r k q1 q2 => ?_)
            · rw [show 300 + (8 + X) = 308 + X by omega, rz_eq]; exact hrow k hk
            · rw [rz_nr (by omega)]; exact bnr r k q2
          have hR2 := hR1.forget (T := 0) (x := x) a3 z.2.2.2 hX
          have hR3 := hR2.forget (T := 0) (x := y) b3 z.2.2.2 hY
          generalize hM3 : fX7_forget na nb nc nd 0 (fX7_forget na nb nc nd 0 (rz B (308 + X) (fun j => B (400 + 0) j)) x) y = M3 at hR3
          have e3 : ∀ r k, r < 400 → r ≠ 308 + X → r ≠ 340 + X → r ≠ 340 + Y → M3 r k = u2 m 0 20 0 r k := fun r k q1 q2 q3 q4 => by
            rw [← hM3, forget_nr (by rw [hY]; exact q4), forget_nr (by rw [hX]; exact q3), rz_nr q2]; exact bnr r k q1
          have e3x : ∀ k, M3 (308 + X) k = B (400 + 0) k := fun k => by
            rw [← hM3, forget_nr (by rw [hY]; omega), forget_nr (by rw [hX]; omega), rz_eq]
          have w : ∀ r k, r ≠ 308 + Y → blZ M3 (308 + Y) r k = M3 r k := fun r k q => blZ_nr q
          have wy : ∀ k, k < 23 → blZ M3 (308 + Y) (308 + Y) k = if k = 0 ∨ k = 1 ∨ k = 10 ∨ 11 ≤ k then 0 else m (308 + Y) k := fun k hk => by
            rw [blZ_at k hk, e3 _ _ (by omega) (by omega) (by omega) (by omega), u2_nr (by omega)]
          have wm : ∀ r k, 100 ≤ r → r < 400 → r ≠ 308 + X → r ≠ 308 + Y → r ≠ 340 + X → r ≠ 340 + Y → blZ M3 (308 + Y) r k = m r k := fun r k q1 q2 q3 q4 q5 q6 => by
            rw [w r k q4, e3 r k q2 q3 q5 q6, u2_nr (by omega)]
          have w00 : blZ M3 (308 + Y) 0 0 = m 0 0 := by rw [w _ _ (by omega), e3 _ _ (by omega) (by omega) (by omega) (by omega), u2_nk (by decide)]
          have oy : only3 (fX3_forgetReadings (fX3_forgetReadings (fX3_takeIn g X Y) X) Y) (up (fX3_forgetReadings (fX4_clear (fX3_forgetReadings (fX3_takeIn g X Y) X) (8 + Y)) Y) 3 (8 + Y) 10 0) (8 + Y) := by
            refine only3.upd ?_ (by decide) (by decide)
            unfold fX3_forgetReadings
            exact ((clear_o _ _).upo.upo).upo
          have hR4 : Rl na nb nc nd (up (fX3_forgetReadings (fX4_clear (fX3_forgetReadings (fX3_takeIn g X Y) X) (8 + Y)) Y) 3 (8 + Y) 10 0) (blZ M3 (308 + Y)) := by
            refine hR3.row (j := 8 + Y) (by omega) oy (fun i q _ => by omega) (fun i q => by omega) (fun k hk => ?_) (fun r k q1 q2 => w r k (by omega))
            have cf : ∀ G j k, cr (fX3_forgetReadings G Y) j k = cr G j k := fun G j k => by unfold fX3_forgetReadings; rw [cr_nt (by decide), cr_nt (by decide), cr_nt (by decide)]
            have cf2 : ∀ G j k, cr (fX3_forgetReadings G X) j k = cr G j k := fun G j k => by unfold fX3_forgetReadings; rw [cr_nt (by decide), cr_nt (by decide), cr_nt (by decide)]
            rw [show 300 + (8 + Y) = 308 + Y by omega, wy k hk, cr_up3 (by decide), cf, clear_cr _ _ k hk, cf2, oT.row (by omega), h.lr hI b3 hk]
            by_cases q10 : k = 10
            · rw [if_pos ⟨rfl, q10⟩, if_pos (by omega)]
            · rw [if_neg (by omega)]
              by_cases q : k = 1 ∨ k = 0 ∨ 11 ≤ k
              · rw [if_pos q, if_pos (by omega)]
              · rw [if_neg q, if_neg (by omega)]
          have bI := blend_I (na := na) (nb := nb) (nc := nc) (nd := nd) (T := 0) (m := u2 m 0 20 0) (i := X) (o := Y) (M := blZ M3 (308 + Y)) (r2 := 308 + X) (hI0.2.2.2.2.2.2.1 X a3) (hI0.2.2.2.2.2.2.1 Y b3) (by rw [u2_nr (by omega), u2_nr (by omega)]; exact hsum) (by rw [u2_nr (by omega), u2_nr (by omega)]; omega) (by omega) (by omega) (by rw [u2_nk (by decide)]; exact zh.2) (fun k hk => by rw [w _ _ (by omega), e3x, hB])
          obtain ⟨j1, j2, j3, j4, j5, j6, j7, j8⟩ := bI
          rw [u2_nk (by decide)] at j2 j5 j6
          rw [u2_nr (by omega)] at j3 j7
          rw [u2_nr (by omega), u2_nr (by omega)] at j8
          have jk : (blZ M3 (308 + Y) (308 + X) 0).toInt = (m (308 + X) 0).toInt + (m (308 + Y) 0).toInt := by rw [j8, ti_add (by omega) (by omega)]
          have e0 : (0 : Int32).toInt = 0 := rfl
          have hI4 : Iv na nb nc nd (blZ M3 (308 + Y)) := by
            refine ⟨z, by rw [w00]; exact zh, fun i hi => by rw [wm _ _ (by omega) (by omega) (by omega) (by omega) (by omega) (by omega)]; exact i1 i hi, fun i hi => (i2 i hi).cg (Nat.le_refl _) (wm _ _ (by omega) (by omega) (by omega) (by omega) (by omega) (by omega)) (wm _ _ (by omega) (by omega) (by omega) (by omega) (by omega) (by omega)) (wm _ _ (by omega) (by omega) (by omega) (by omega) (by omega) (by omega)) (wm _ _ (by omega) (by omega) (by omega) (by omega) (by omega) (by omega)), fun i hi => (i3 i hi).cg (fun k _ => wm _ _ (by omega) (by omega) (by omega) (by omega) (by omega) (by omega)) (by rw [w00]; exact Int.le_refl _), fun i hi => (i4 i hi).cg (fun k _ => wm _ _ (by omega) (by omega) (by omega) (by omega) (by omega) (by omega)) (by rw [w00]; exact Int.le_refl _), fun i hi => ?_, ?_⟩
            · by_cases q : i = X
              · subst q
                refine ⟨j1, ?_, ?_, ?_, ?_, ?_, fun _ => ?_⟩
                · unfold ptI; rw [w00]; exact j2
                · have := lx.2.2.1
                  unfold mtI at this ⊢
                  rw [j3]; exact this
                · unfold moI; rw [w00]; exact ⟨j4.1, j4.2, j5⟩
                · rw [w00]; exact j6
                · rw [j7]; exact lx.2.2.2.2.2.1
                · rw [jk]; omega
              · by_cases q2 : i = Y
                · subst q2
                  have y0 : ∀ k, k < 23 → k = 0 ∨ k = 1 ∨ k = 10 ∨ 11 ≤ k → blZ M3 (308 + i) (308 + i) k = 0 := fun k hk hk2 => by rw [wy k hk, if_pos hk2]
                  have y1 : ∀ k, k < 10 → k ≠ 0 → k ≠ 1 → blZ M3 (308 + i) (308 + i) k = m (308 + i) k := fun k hk h0 h1 => by rw [wy k (by omega), if_neg (by omega)]
                  refine ⟨⟨fun f hf => ?_, ?_, ?_, ?_, ?_⟩, ?_, ?_, ?_, ?_, ?_, fun q9 => ?_⟩
                  · rw [y0 _ (by omega) (by omega), y0 _ (by omega) (by omega)]; decide
                  · rw [y0 0 (by decide) (by decide), y0 11 (by decide) (by decide), y0 12 (by decide) (by decide), y0 13 (by decide) (by decide), y0 14 (by decide) (by decide), y0 15 (by decide) (by decide), y0 16 (by decide) (by decide)]; decide
                  · rw [y0 0 (by decide) (by decide)]; decide
                  · rw [y0 1 (by decide) (by decide)]; decide
                  · rw [y0 1 (by decide) (by decide)]; decide
                  · exact ly.2.1.cg (y1 3 (by decide) (by decide) (by decide)) (by rw [w00]; exact Int.le_refl _)
                  · have := ly.2.2.1
                    unfold mtI at this ⊢
                    rw [y1 4 (by decide) (by decide) (by decide)]; exact this
                  · have := ly.2.2.2.1
                    unfold moI at this ⊢
                    rw [y1 5 (by decide) (by decide) (by decide), y1 7 (by decide) (by decide) (by decide), w00]; exact this
                  · rw [y1 2 (by decide) (by decide) (by decide), w00]; exact ly.2.2.2.2.1
                  · rw [y0 10 (by decide) (by decide)]; exact Or.inl rfl
                  · rw [y0 10 (by decide) (by decide)] at q9; exact absurd q9 (by decide)
                · exact (i5 i hi).cg (fun k _ => wm _ _ (by omega) (by omega) (by omega) (by omega) (by omega) (by omega)) (by rw [w00]; exact Int.le_refl _)
            · rw [sumF_move (f := kiL m) (x := X) (y := Y) a3 b3 hne (fun i hi h1 h2 => by show (_ : Int32).toInt = _; rw [wm _ _ (by omega) (by omega) (by omega) (by omega) (by omega) (by omega)]; rfl) jk (by show (_ : Int32).toInt = 0; rw [wy 0 (by decide)]; rfl)]
              exact i6
          refine ⟨?_, fun _ => ?_, hR4, hI4, ?_⟩
          · rw [w _ _ (by omega), e3 _ _ (by omega) (by omega) (by omega) (by omega), u2_eq]; rfl
          · have q := hR4.lr hI4 (i := X) (k := 0) a3 (by decide)
            rw [cr_3 (by decide), up_ne (by omega)] at q
            exact q
          · unfold Tr
            rw [oy 3 20 0 (by omega), forgetC_o (by decide), forgetC_o (by decide), oT 3 20 0 (by omega)]; exact hT
    · rw [if_neg (by rw [b1]; decide), if_pos (b2 _), b1]; exact Ok.no (T := 0) h hI hT (by simp) rfl
  · rw [if_neg (by rw [a1]; decide), if_pos (a2 _), a1]; exact Ok.no (T := 0) h hI hT (by simp) rfl
end B2

