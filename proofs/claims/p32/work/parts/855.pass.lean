/-! ===== an hour whole, and hours ===== -/
section PA
variable {na nb nc nd T : Nat} {g g2 : Gd} {m m2 : Md}
theorem L120_3 {wm rn v4 v3 : Int32} {m0 m1 : Md} : fX7_pass_L120 na nb nc nd T m0 wm rn v4 v3 3 0 m1 = tstep na nb nc nd T wm (tstep na nb nc nd T wm (tstep na nb nc nd T wm m1 0) 1) 2 := L120_s.trans (L120_s.trans (L120_s.trans rfl))
theorem tstep_T (hT : Tr g) {k : Nat} (hk : k < 3) {wm : Int32} : Tr (fX5_passHour g k wm) := by
  unfold fX5_passHour
  split
  · exact (hT.up (by omega)).up (by omega)
  · exact hT
theorem tanks_I {wm h0 : Int32} (ht : ∀ i, i < 3 → tankI (u2 m 0 0 h0) i) (hw : 0 ≤ wm.toInt ∧ wm.toInt ≤ 40) (hh : (m 0 0).toInt = h0.toInt + 1) (hh2 : h0.toInt ≤ 20000) : ∀ i, i < 3 → tankI (tstep na nb nc nd T wm (tstep na nb nc nd T wm (tstep na nb nc nd T wm m 0) 1) 2) i := by
  have st : ∀ (m : Md) (k : Nat), tankI (u2 m 0 0 h0) k → (m 0 0).toInt = h0.toInt + 1 → tankI (tstep na nb nc nd T wm m k) k := by
    intro m k t e
    have q := tstep_I (na := na) (nb := nb) (nc := nc) (nd := nd) (T := T) (m := m) (m2 := fun _ _ => h0) (k := k) (wm := wm) t hw e hh2
    exact q
  have ot : ∀ (m : Md) (k i : Nat), i ≠ k → (∀ c, tstep na nb nc nd T wm m k (300 + i) c = m (300 + i) c) := fun m k i h c => tstep_o (by omega)
  have oh : ∀ (m : Md) (k : Nat), tstep na nb nc nd T wm m k 0 0 = m 0 0 := fun m k => tstep_o (by omega)
  have ou : ∀ (m : Md) (k i : Nat), i ≠ k → tankI (u2 m 0 0 h0) i → tankI (u2 (tstep na nb nc nd T wm m k) 0 0 h0) i := fun m k i h t => t.cg (fun c _ => by rw [u2_nr (show 300 + i ≠ 0 by omega), u2_nr (show 300 + i ≠ 0 by omega)]; exact ot m k i h c) (by rw [u2_eq, u2_eq]; exact Int.le_refl _)
  have oi : ∀ (m : Md) (k i : Nat), i ≠ k → tankI m i → tankI (tstep na nb nc nd T wm m k) i := fun m k i h t => t.cg (fun c _ => ot m k i h c) (by rw [oh]; exact Int.le_refl _)
  intro i hi
  by_cases e0 : i = 0
  · subst e0
    exact oi _ _ _ (by decide) (oi _ _ _ (by decide) (st m 0 (ht 0 (by decide)) hh))
  by_cases e1 : i = 1
  · subst e1
    exact oi _ _ _ (by decide) (st _ 1 (ou _ _ _ (by decide) (ht 1 (by decide))) (by rw [oh]; exact hh))
  obtain rfl : i = 2 := by omega
  exact st _ 2 (ou _ _ _ (by decide) (ou _ _ _ (by decide) (ht 2 (by decide)))) (by rw [oh, oh]; exact hh)
theorem lotI.older {i : Nat} (h : lotI m i) (e : ∀ c, c ≠ 2 → m2 (308 + i) c = m (308 + i) c) (e2 : m2 (308 + i) 2 = m (308 + i) 2 + m (308 + i) 10) (hh : (m2 0 0).toInt = (m 0 0).toInt + 1) (hh2 : (m 0 0).toInt ≤ 20000) : lotI m2 i := by
  obtain ⟨c1, c2, c3, c4, c5, c6, c7⟩ := h
  refine ⟨c1.cg2 (fun c _ h => e c (by omega)), ?_, ?_, ?_, ?_, ?_, ?_⟩
  · unfold ptI at c2 ⊢
    rw [e 3 (by decide)]; omega
  · unfold mtI at c3 ⊢
    rw [e 4 (by decide)]; exact c3
  · unfold moI at c4 ⊢
    rw [e 5 (by decide), e 7 (by decide)]; omega
  · rw [e2]
    have q1 : (1 : Int32).toInt = 1 := rfl
    have q0 : (0 : Int32).toInt = 0 := rfl
    have a : (m (308 + i) 2 + m (308 + i) 10).toInt = (m (308 + i) 2).toInt + (m (308 + i) 10).toInt := by
      rcases c6 with c6 | c6
      · rw [c6]; exact ti_add (by rw [q0]; omega) (by rw [q0]; omega)
      · rw [c6]; exact ti_add (by rw [q1]; omega) (by rw [q1]; omega)
    rcases c6 with c6 | c6
    · rw [c6, q0] at a; rw [c6, a]; omega
    · rw [c6, q1] at a; rw [c6, a]; omega
  · rw [e 10 (by decide)]; exact c6
  · rw [e 10 (by decide), e 0 (by decide)]; exact c7
theorem P_hour {wm rn : Int32} (h : Rl na nb nc nd g m) (hI : Iv na nb nc nd m) (hT : Tr g) (hw : 0 ≤ wm.toInt ∧ wm.toInt ≤ 40) (hr : 0 ≤ rn.toInt ∧ rn.toInt ≤ 20) (hh : (m 0 0).toInt + 1 ≤ 20000) :
    (fX6_passOneHour g wm rn).1 = (fX7_pass na nb nc nd T m wm rn).1 ∧ Rl na nb nc nd (fX6_passOneHour g wm rn).2 (fX7_pass na nb nc nd T m wm rn).2 ∧ Iv na nb nc nd (fX7_pass na nb nc nd T m wm rn).2 ∧ Tr (fX6_passOneHour g wm rn).2 ∧ (fX7_pass na nb nc nd T m wm rn).2 0 20 = m 0 20 ∧ ((fX7_pass na nb nc nd T m wm rn).2 0 0).toInt = (m 0 0).toInt + 1 := by
  have z : Sz na nb nc nd := hI.1
  have zz := hI.1
  have h00 := hI.2.1
  have q1 : (1 : Int32).toInt = 1 := rfl
  have hh1 : (m 0 0 + 1).toInt = (m 0 0).toInt + 1 := by rw [ti_add (by omega) (by omega), q1]
  unfold fX6_passOneHour fX7_pass fX6_ageBaskets
  dsimp only
  rw [h.s (k := 0) (by decide)]
  have R1 := h.u0 (k := 0) (v := m 0 0 + 1) (by decide)
  have T1 : Tr (up g 0 0 0 (m 0 0 + 1)) := hT.up (by omega)
  obtain ⟨p2, R2, T2, o2⟩ := bask_loop (T := T) (wm := wm) (rn := rn) (v4 := (m 0 0 + 1) - (m 0 0 + 1) / 24 * 24) (m0 := m) z nb 21 0 0 (up g 0 0 0 (m 0 0 + 1)) (u2 m 0 0 (m 0 0 + 1)) (by omega) (by omega) R1 T1
  have o1 : ∀ r c, r ≠ 0 ∨ c ≠ 0 → u2 m 0 0 (m 0 0 + 1) r c = m r c := fun r c h => if_neg (by omega)
  have o10 : u2 m 0 0 (m 0 0 + 1) 0 0 = m 0 0 + 1 := u2_eq _ _ _ _
  have w2 : ∀ r c, (r ≠ 0 ∨ c ≠ 0) → (r = 0 → c ≠ 5) → (200 ≤ r → r < 220 → c ≠ 3 ∧ c ≠ 4) → (fX7_pass_L30 na nb nc nd T m wm rn ((m 0 0 + 1) - (m 0 0 + 1) / 24 * 24) nb 0 0 (u2 m 0 0 (m 0 0 + 1))).2 r c = m r c := fun r c h1 h2 h3 => (o2 r c h2 h3).trans (o1 r c h1)
  have w20 := (o2 0 0 (fun _ => by decide) (fun q => absurd q (by decide))).trans o10
  generalize fX7_pass_L30 na nb nc nd T m wm rn ((m 0 0 + 1) - (m 0 0 + 1) / 24 * 24) nb 0 0 (u2 m 0 0 (m 0 0 + 1)) = B at *
  generalize fX6_ageBaskets_L4 (up g 0 0 0 (m 0 0 + 1)) 21 0 0 (up g 0 0 0 (m 0 0 + 1)) = A at *
  obtain ⟨B1, B2⟩ := B
  obtain ⟨A1, A2⟩ := A
  dsimp only at *
  subst p2
  -- tanks
  rw [L120_3]
  have R3 := tstep_R (T := T) (tstep_R (T := T) (tstep_R (T := T) R2 (k := 0) (by decide) (wm := wm)) (k := 1) (by decide) (wm := wm)) (k := 2) (by decide) (wm := wm)
  have T3 := tstep_T (tstep_T (tstep_T T2 (k := 0) (by decide) (wm := wm)) (k := 1) (by decide) (wm := wm)) (k := 2) (by decide) (wm := wm)
  have I3 := tanks_I (na := na) (nb := nb) (nc := nc) (nd := nd) (T := T) (wm := wm) (h0 := m 0 0) (m := B2) (fun i hi => (hI.2.2.2.2.1 i hi).cg (fun c _ => by rw [u2_nr (show 300 + i ≠ 0 by omega)]; exact w2 _ _ (by omega) (by omega) (by omega)) (by rw [u2_eq]; exact Int.le_refl _)) hw (by rw [w20, hh1]) h00.2
  have w3 : ∀ r c, (r < 300 ∨ 303 ≤ r) → tstep na nb nc nd T wm (tstep na nb nc nd T wm (tstep na nb nc nd T wm B2 0) 1) 2 r c = B2 r c := fun r c h => by rw [tstep_o (by omega), tstep_o (by omega), tstep_o (by omega)]
  generalize tstep na nb nc nd T wm (tstep na nb nc nd T wm (tstep na nb nc nd T wm B2 0) 1) 2 = M3 at *
  generalize fX5_passHour (fX5_passHour (fX5_passHour A2 0 wm) 1 wm) 2 wm = G3 at *
  have w30 : M3 0 0 = m 0 0 + 1 := (w3 0 0 (by omega)).trans w20
  have w3b : ∀ i, i < nc → ∀ c, M3 (303 + i) c = m (303 + i) c := fun i hi c => (w3 _ _ (by omega)).trans (w2 _ _ (by omega) (by omega) (by omega))
  have w3l : ∀ i, i < nd → ∀ c, M3 (308 + i) c = m (308 + i) c := fun i hi c => (w3 _ _ (by omega)).trans (w2 _ _ (by omega) (by omega) (by omega))
  -- beds
  obtain ⟨R4, T4, w4, I4⟩ := beds_loop (T := T) (wm := wm) (rn := rn) (h0 := m 0 0) (v3 := A1) (m0 := m) (g0 := g) z hw hr h00.2 nc 6 0 _ _ (by omega) (by omega) R3 T3 (by rw [w30, hh1]) (fun i _ hi => (hI.2.2.2.2.2.1 i hi).cg (fun c _ => by rw [u2_nr (show 303 + i ≠ 0 by omega)]; exact w3b i hi c) (by rw [u2_eq]; exact Int.le_refl _))
  rw [w30] at R4 w4 I4
  generalize fX7_pass_L180 na nb nc nd T m wm rn ((m 0 0 + 1) - (m 0 0 + 1) / 24 * 24) A1 nc 0 M3 = M4 at *
  generalize fX6_passOneHour_L44 g wm rn 6 0 G3 = G4 at *
  have w40 : M4 0 0 = m 0 0 + 1 := (w4 0 0 (fun i _ _ => by omega)).trans w30
  have w4l : ∀ i, i < nd → ∀ c, M4 (308 + i) c = m (308 + i) c := fun i hi c => (w4 _ _ (fun j _ _ => by omega)).trans (w3l i hi c)
  rw [R4.s (k := 0) (by decide), w40]
  have fin : ∀ (G5 : Gd) (M5 : Md), Rl na nb nc nd G5 M5 → Tr G5 → (∀ r c, (∀ i, i < nd → ¬ (r = 308 + i ∧ c = 2)) → M5 r c = M4 r c) → (∀ i, i < nd → (∀ k, k < 23 → M5 (308 + i) k = m (308 + i) k) ∨ lotI M5 i) → (A1 = A1 ∧ Rl na nb nc nd G5 M5 ∧ Iv na nb nc nd M5 ∧ Tr G5 ∧ M5 0 20 = m 0 20 ∧ (M5 0 0).toInt = (m 0 0).toInt + 1) := by
    intro G5 M5 R5 T5 w5 l5
    have w50 : M5 0 0 = m 0 0 + 1 := (w5 0 0 (fun i _ => by omega)).trans w40
    refine ⟨rfl, R5, ?_, T5, ?_, by rw [w50, hh1]⟩
    · refine hI.of ⟨by rw [w50, hh1]; omega, by rw [w50, hh1]; omega⟩ (fun i hi => ?_) (fun i hi k hk => ?_) (fun i hi => Or.inr ?_) (fun i hi => Or.inr ?_) l5 (sumK_same hI (fun i hi => ?_))
      · rw [w5 _ _ (fun j _ => by omega), w4 _ _ (fun j _ _ => by omega), w3 _ _ (by omega), w2 _ _ (by omega) (by omega) (by omega)]
      · rw [w5 _ _ (fun j _ => by omega), w4 _ _ (fun j _ _ => by omega), w3 _ _ (by omega), w2 _ _ (by omega) (by omega) (by omega)]
      · exact (I3 i hi).cg (fun c _ => by rw [w5 _ _ (fun j _ => by omega), w4 _ _ (fun j _ _ => by omega)]) (by rw [w50, w30]; exact Int.le_refl _)
      · exact (I4 i (Nat.zero_le _) hi).cg (fun c _ => by rw [w5 _ _ (fun j _ => by omega)]) (by rw [w50, w40]; exact Int.le_refl _)
      · rw [w5 _ _ (fun j _ => by omega)]; exact w4l i hi 0
    · rw [w5 _ _ (fun j _ => by omega), w4 _ _ (fun j _ _ => by omega), w3 _ _ (by omega), w2 _ _ (by omega) (by omega) (by omega)]
  by_cases c : (m 0 0 + 1) - (m 0 0 + 1) / 24 * 24 = 0
  · rw [if_pos c, if_pos c]
    dsimp only
    unfold fX6_ageLots
    obtain ⟨R5, T5, w5, v5⟩ := lots_loop (T := T) (wm := wm) (rn := rn) (v4 := (m 0 0 + 1) - (m 0 0 + 1) / 24 * 24) (v3 := A1) (m0 := m) z nd 13 0 _ _ (by omega) (by omega) R4 T4 (fun i hi => by rw [w4l i hi 10]; exact (hI.2.2.2.2.2.2.1 i hi).2.2.2.2.2.1)
    have e0 := w5 0 0 (fun i _ _ => by omega)
    exact fin _ _ R5 T5 (fun r c h => w5 r c (fun i _ hi => h i hi)) (fun i hi => Or.inr ((hI.2.2.2.2.2.2.1 i hi).older (fun c hc => by rw [w5 _ _ (fun j _ _ => by omega)]; exact w4l i hi c) (by rw [v5 i (Nat.zero_le _) hi, w4l i hi, w4l i hi]) (by rw [e0, w40, hh1]) h00.2))
  · rw [if_neg c, if_neg c]
    exact fin G4 M4 R4 T4 (fun _ _ _ => rfl) (fun i hi => Or.inl (fun k _ => w4l i hi k))
theorem pass_loop {wm rn hc : Int32} {N : Nat} {g0 : Gd} {m0 : Md} (hN : hc = nI N) (hN2 : N ≤ 100) (hw : 0 ≤ wm.toInt ∧ wm.toInt ≤ 40) (hr : 0 ≤ rn.toInt ∧ rn.toInt ≤ 20) : ∀ (n f k : Nat) (a : Int32) (g1 : Gd) (m1 : Md), k + n = N → n < f → Rl na nb nc nd g1 m1 → Iv na nb nc nd m1 → Tr g1 → (m1 0 0).toInt + n ≤ 20000 →
    (fX6_pass_L69 g0 hc wm rn f k a g1).1 = (fX7_pass__L62 na nb nc nd T m0 hc wm rn n k a m1).1 ∧ Rl na nb nc nd (fX6_pass_L69 g0 hc wm rn f k a g1).2 (fX7_pass__L62 na nb nc nd T m0 hc wm rn n k a m1).2 ∧ Iv na nb nc nd (fX7_pass__L62 na nb nc nd T m0 hc wm rn n k a m1).2 ∧ Tr (fX6_pass_L69 g0 hc wm rn f k a g1).2 ∧ (fX7_pass__L62 na nb nc nd T m0 hc wm rn n k a m1).2 0 20 = m1 0 20 := by
  intro n
  induction n with
  | zero =>
    intro f k a g1 m1 hkn hf hR hI hT hh
    obtain ⟨f, rfl⟩ : ∃ f', f = f' + 1 := ⟨f - 1, by omega⟩
    have hc2 : hc ≤ nI k := by rw [hN, show k = N by omega]; exact Int32.le_refl _
    rw [fX6_pass_L69, if_pos hc2]
    exact ⟨rfl, hR, hI, hT, rfl⟩
  | succ n ih =>
    intro f k a g1 m1 hkn hf hR hI hT hh
    obtain ⟨f, rfl⟩ : ∃ f', f = f' + 1 := ⟨f - 1, by omega⟩
    have hc2 : ¬ hc ≤ nI k := by rw [hN]; exact nI_ge (by omega) (by omega)
    rw [fX6_pass_L69, if_neg hc2, fX7_pass__L62]
    obtain ⟨p1, p2, p3, p4, p5, p6⟩ := P_hour (T := T) hR hI hT hw hr (by omega)
    rw [p1]
    obtain ⟨q1, q2, q3, q4, q5⟩ := ih f (k + 1) (a + (fX7_pass na nb nc nd T m1 wm rn).1) _ _ (by omega) (by omega) p2 p3 p4 (by rw [p6]; omega)
    exact ⟨q1, q2, q3, q4, q5.trans p5⟩
theorem P_pass (h : Rl na nb nc nd g m) (hI : Iv na nb nc nd m) (hT : Tr g) (x wm rn : Int32) : Ok na nb nc nd (k23 (fX6_pass g x wm rn).1) (fX6_pass g x wm rn).1 (fX6_pass g x wm rn).2.1 (fX6_pass g x wm rn).2.2 (fX7_pass_ na nb nc nd T m x wm rn).1 (fX7_pass_ na nb nc nd T m x wm rn).2 := by
  have q0 : (0 : Int32).toInt = 0 := rfl
  have q1 : (1 : Int32).toInt = 1 := rfl
  have q20 : (20 : Int32).toInt = 20 := rfl
  have q40 : (40 : Int32).toInt = 40 := rfl
  have q100 : (100 : Int32).toInt = 100 := rfl
  have qk : (20000 : Int32).toInt = 20000 := rfl
  unfold fX6_pass fX7_pass_ fX7_isWarmth
  rcases rng_is x 1 100 with ⟨b1, b2, b3, b4⟩ | ⟨b1, b2⟩ | ⟨b1, b2, b3, b4⟩
  · rw [if_neg b1, if_neg b3, if_neg b4]
    rcases rng_is wm 0 40 with ⟨c1, c2, c3, c4⟩ | ⟨c1, c2⟩ | ⟨c1, c2, c3, c4⟩
    · rw [if_neg c1, if_neg c3, if_neg c4]
      rcases rng_is rn 0 20 with ⟨d1, d2, d3, d4⟩ | ⟨d1, d2⟩ | ⟨d1, d2, d3, d4⟩
      · rw [if_neg d1, if_pos d2, if_neg d4, h.s (by decide)]
        rw [lt_ti, q1] at b1
        rw [lt_ti, q100] at b3
        rw [lt_ti, q0] at c1 d1
        rw [lt_ti, q40] at c3
        rw [lt_ti, q20] at d3
        have h00 := hI.2.1
        have sa : (m 0 0 + x).toInt = (m 0 0).toInt + x.toInt := ti_add (by omega) (by omega)
        by_cases e : m 0 0 + x ≤ 20000
        · rw [if_pos e, if_pos e]
          rw [le_ti, qk, sa] at e
          dsimp only
          have xn : x = nI x.toNatClampNeg := eq_ti.2 (by rw [ti_nI (by have := clamp_ti (x := x) (by omega); omega), clamp_ti (by omega)])
          have xt : x.toNatClampNeg ≤ 100 := by
            have := clamp_ti (x := x) (by omega)
            omega
          have xi : (x.toNatClampNeg : Int) = x.toInt := clamp_ti (by omega)
          have e20 : u2 m 0 20 0 0 0 = m 0 0 := u2_nk (by decide)
          obtain ⟨q1, q2, q3, q4, q5⟩ := pass_loop (T := T) (g0 := g) (m0 := m) xn xt (wm := wm) (rn := rn) (by omega) (by omega) x.toNatClampNeg 101 0 0 g (u2 m 0 20 0) (by omega) (by omega) h.th hI.th hT (by rw [e20]; omega)
          exact ⟨q5.trans (u2_eq _ _ _ _), fun _ => q1, q2, q3, q4⟩
        · rw [if_neg e, if_neg e]; exact Ok.no (T := T) h hI hT (by simp) rfl
      · rw [if_pos d1, if_pos d2]; exact Ok.no (T := T) h hI hT (by simp) rfl
      · rw [if_neg d1, if_neg d2, if_pos d4]; exact Ok.no (T := T) h hI hT (by simp) rfl
    · rw [if_pos c1, if_pos c2]; exact Ok.no (T := T) h hI hT (by simp) rfl
    · rw [if_neg c1, if_pos c3, if_pos c4]; exact Ok.no (T := T) h hI hT (by simp) rfl
  · rw [if_pos b1, if_pos b2]; exact Ok.no (T := T) h hI hT (by simp) rfl
  · rw [if_neg b1, if_pos b3, if_pos b4]; exact Ok.no (T := T) h hI hT (by simp) rfl
end PA
