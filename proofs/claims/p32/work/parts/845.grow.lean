/-! ===== the calls that add a row: farm, bring, bed ===== -/
section GW
variable {na nb nc nd T : Nat} {g g2 : Gd} {m m2 : Md}
theorem Rl.newF (h : Rl na nb nc nd g m) (hn : na < 6) (o : ∀ t i k, ¬ (t = 1 ∧ i = na) → ¬ (t = 0 ∧ k = 7) → g2 t i k = g t i k) (c : g2 0 0 7 = nI (na + 1)) (row : ∀ k, k < 4 → g2 1 na k = m2 (100 + na) k) (e : ∀ r k, (r = 0 → k < 7) → r ≠ 100 + na → r < 400 → m2 r k = m r k) : Rl (na + 1) nb nc nd g2 m2 := by
  obtain ⟨s, n, f, b, t, d, l, r, q⟩ := h
  have oc : ∀ j k, cr g2 j k = cr g j k := fun j k => by unfold cr; rw [o _ _ _ (by omega) (by omega), o _ _ _ (by omega) (by omega), o _ _ _ (by omega) (by omega)]
  refine ⟨fun k2 hk2 => ?_, ⟨c, ?_, ?_, ?_⟩, fun i hi k hk => ?_, fun i hi k hk => ?_, fun i hi k hk => ?_, fun i hi k hk => ?_, fun i hi k hk => ?_, fun i hi k hk => ?_, fun k hk => ?_⟩
  · rw [o _ _ _ (by omega) (by omega), s k2 hk2, e _ _ (fun _ => hk2) (by omega) (by omega)]
  · rw [o _ _ _ (by omega) (by omega)]; exact n.2.1
  · rw [o _ _ _ (by omega) (by omega)]; exact n.2.2.1
  · rw [o _ _ _ (by omega) (by omega)]; exact n.2.2.2
  · by_cases q : i = na
    · subst q; rw [row k hk, if_pos (by omega)]
    · rw [o _ _ _ (by omega) (by omega), f i hi k hk]
      by_cases z : i < na
      · rw [if_pos z, if_pos (by omega), e _ _ (by omega) (by omega) (by omega)]
      · rw [if_neg z, if_neg (show ¬ i < na + 1 by omega)]
  · rw [o _ _ _ (by omega) (by omega), b i hi k hk, e _ _ (by omega) (by omega) (by omega)]
  · rw [oc, t i hi k hk, e _ _ (by omega) (by omega) (by omega)]
  · rw [oc, d i hi k hk, e _ _ (by omega) (by omega) (by omega)]
  · rw [oc, l i hi k hk, e _ _ (by omega) (by omega) (by omega)]
  · rw [o _ _ _ (by omega) (by omega), r i hi k hk, e _ _ (by omega) (by omega) (by omega)]
  · rw [o _ _ _ (by omega) (by omega), q k hk, e _ _ (by omega) (by omega) (by omega)]
theorem Rl.newB (h : Rl na nb nc nd g m) (hn : nb < 20) (o : ∀ t i k, ¬ (t = 2 ∧ i = nb) → ¬ (t = 0 ∧ k = 8) → g2 t i k = g t i k) (c : g2 0 0 8 = nI (nb + 1)) (row : ∀ k, k < 6 → g2 2 nb k = m2 (200 + nb) k) (e : ∀ r k, (r = 0 → k < 7) → r ≠ 200 + nb → r < 400 → m2 r k = m r k) : Rl na (nb + 1) nc nd g2 m2 := by
  obtain ⟨s, n, f, b, t, d, l, r, q⟩ := h
  have oc : ∀ j k, cr g2 j k = cr g j k := fun j k => by unfold cr; rw [o _ _ _ (by omega) (by omega), o _ _ _ (by omega) (by omega), o _ _ _ (by omega) (by omega)]
  refine ⟨fun k2 hk2 => ?_, ⟨?_, c, ?_, ?_⟩, fun i hi k hk => ?_, fun i hi k hk => ?_, fun i hi k hk => ?_, fun i hi k hk => ?_, fun i hi k hk => ?_, fun i hi k hk => ?_, fun k hk => ?_⟩
  · rw [o _ _ _ (by omega) (by omega), s k2 hk2, e _ _ (fun _ => hk2) (by omega) (by omega)]
  · rw [o _ _ _ (by omega) (by omega)]; exact n.1
  · rw [o _ _ _ (by omega) (by omega)]; exact n.2.2.1
  · rw [o _ _ _ (by omega) (by omega)]; exact n.2.2.2
  · rw [o _ _ _ (by omega) (by omega), f i hi k hk, e _ _ (by omega) (by omega) (by omega)]
  · by_cases q : i = nb
    · subst q; rw [row k hk, if_pos (by omega)]
    · rw [o _ _ _ (by omega) (by omega), b i hi k hk]
      by_cases z : i < nb
      · rw [if_pos z, if_pos (by omega), e _ _ (by omega) (by omega) (by omega)]
      · rw [if_neg z, if_neg (by omega)]
  · rw [oc, t i hi k hk, e _ _ (by omega) (by omega) (by omega)]
  · rw [oc, d i hi k hk, e _ _ (by omega) (by omega) (by omega)]
  · rw [oc, l i hi k hk, e _ _ (by omega) (by omega) (by omega)]
  · rw [o _ _ _ (by omega) (by omega), r i hi k hk, e _ _ (by omega) (by omega) (by omega)]
  · rw [o _ _ _ (by omega) (by omega), q k hk, e _ _ (by omega) (by omega) (by omega)]
theorem Rl.newD (h : Rl na nb nc nd g m) (hn : nc < 5) (o : ∀ t i k, ¬ (3 ≤ t ∧ t ≤ 5 ∧ i = 3 + nc) → ¬ (t = 0 ∧ k = 9) → g2 t i k = g t i k) (c : g2 0 0 9 = nI (nc + 1)) (row : ∀ k, k < 23 → cr g2 (3 + nc) k = m2 (303 + nc) k) (e : ∀ r k, (r = 0 → k < 7) → r ≠ 303 + nc → r < 400 → m2 r k = m r k) : Rl na nb (nc + 1) nd g2 m2 := by
  obtain ⟨s, n, f, b, t, d, l, r, q⟩ := h
  have oc : ∀ j k, j ≠ 3 + nc → cr g2 j k = cr g j k := fun j k hj => by unfold cr; rw [o _ _ _ (by omega) (by omega), o _ _ _ (by omega) (by omega), o _ _ _ (by omega) (by omega)]
  refine ⟨fun k2 hk2 => ?_, ⟨?_, ?_, c, ?_⟩, fun i hi k hk => ?_, fun i hi k hk => ?_, fun i hi k hk => ?_, fun i hi k hk => ?_, fun i hi k hk => ?_, fun i hi k hk => ?_, fun k hk => ?_⟩
  · rw [o _ _ _ (by omega) (by omega), s k2 hk2, e _ _ (fun _ => hk2) (by omega) (by omega)]
  · rw [o _ _ _ (by omega) (by omega)]; exact n.1
  · rw [o _ _ _ (by omega) (by omega)]; exact n.2.1
  · rw [o _ _ _ (by omega) (by omega)]; exact n.2.2.2
  · rw [o _ _ _ (by omega) (by omega), f i hi k hk, e _ _ (by omega) (by omega) (by omega)]
  · rw [o _ _ _ (by omega) (by omega), b i hi k hk, e _ _ (by omega) (by omega) (by omega)]
  · rw [oc _ _ (by omega), t i hi k hk, e _ _ (by omega) (by omega) (by omega)]
  · by_cases q : i = nc
    · subst q; rw [row k hk, if_pos (by omega)]
    · rw [oc _ _ (by omega), d i hi k hk]
      by_cases z : i < nc
      · rw [if_pos z, if_pos (by omega), e _ _ (by omega) (by omega) (by omega)]
      · rw [if_neg z, if_neg (by omega)]
  · rw [oc _ _ (by omega), l i hi k hk, e _ _ (by omega) (by omega) (by omega)]
  · rw [o _ _ _ (by omega) (by omega), r i hi k hk, e _ _ (by omega) (by omega) (by omega)]
  · rw [o _ _ _ (by omega) (by omega), q k hk, e _ _ (by omega) (by omega) (by omega)]
theorem nI_inj {a b : Nat} (ha : a < 1000) (hb : b < 1000) (h : nI a = nI b) : a = b := by
  have := congrArg Int32.toInt h
  rw [ti_nI (by omega), ti_nI (by omega)] at this
  omega
theorem nI_lit {n : Nat} : (nI n) = Int32.ofNat n := rfl
/-- how many, against the most -/
theorem full_is {n N : Nat} (hn : n ≤ N) (hN : N ≤ 100) : (nI n < nI N ∧ ¬ nI n = nI N ∧ n < N) ∨ (¬ nI n < nI N ∧ nI n = nI N) := by
  by_cases q : n = N
  · subst q; exact Or.inr ⟨fun q => by rw [lt_ti] at q; omega, rfl⟩
  · exact Or.inl ⟨nI_lt (by omega) (by omega), fun e => q (nI_inj (by omega) (by omega) e), by omega⟩
theorem P_farm (h : Rl na nb nc nd g m) (hI : Iv na nb nc nd m) (hT : Tr g) (x : Int32) : Ok (na + (fX7_farm na nb nc nd 0 m x).2.2) nb nc nd (k23 (fX6_farm g x).1) (fX6_farm g x).1 (fX6_farm g x).2.1 (fX6_farm g x).2.2 (fX7_farm na nb nc nd 0 m x).1 (fX7_farm na nb nc nd 0 m x).2.1 := by
  obtain ⟨z, zh, i1, i2, i3, i4, i5, i6⟩ := id hI
  unfold fX6_farm fX7_farm
  rw [h.a]
  rcases rng_is x 10 22 with ⟨b1, b2, b3, b4⟩ | ⟨b1, b2⟩ | ⟨b1, b2, b3, b4⟩
  · rw [if_neg b1, if_pos b2, if_neg b4]
    have f := full_is (n := na) (N := 6) z.1 (by decide)
    rcases (show (nI na < 6 ∧ ¬ nI na = 6 ∧ na < 6) ∨ (¬ nI na < 6 ∧ nI na = 6) from f) with ⟨c1, c2, c3⟩ | ⟨c1, c2⟩
    · rw [if_pos c1, if_neg c2, nI_clamp (by omega)]
      dsimp only
      have er : rb 0 = 100 := rfl
      rw [er]
      have e : ∀ r k, (r = 0 → k ≠ 20) → r ≠ 100 + na → r < 400 → (rz (u2 (u2 (rz (u2 m 0 20 0) (400 + 0) (fun _ => 0)) (400 + 0) 0 x) (400 + 0) 1 (-1)) (100 + na) (fun j => (u2 (u2 (rz (u2 m 0 20 0) (400 + 0) (fun _ => 0)) (400 + 0) 0 x) (400 + 0) 1 (-1)) (400 + 0) j)) r k = m r k := by
        intro r k h1 h2 h3
        rw [rz_nr h2, u2_nr (by omega), u2_nr (by omega), rz_nr (by omega)]
        by_cases q : r = 0
        · subst q; rw [u2_nk (h1 rfl)]
        · rw [u2_nr q]
      have er : ∀ k, (rz (u2 (u2 (rz (u2 m 0 20 0) (400 + 0) (fun _ => 0)) (400 + 0) 0 x) (400 + 0) 1 (-1)) (100 + na) (fun j => (u2 (u2 (rz (u2 m 0 20 0) (400 + 0) (fun _ => 0)) (400 + 0) 0 x) (400 + 0) 1 (-1)) (400 + 0) j)) (100 + na) k = if k = 1 then -1 else if k = 0 then x else 0 := by
        intro k
        rw [rz_eq]
        by_cases q : k = 1
        · subst q; rw [u2_eq]; rfl
        · rw [u2_nk q, if_neg q]
          by_cases q2 : k = 0
          · subst q2; rw [u2_eq]; rfl
          · rw [u2_nk q2, if_neg q2, rz_eq]
      refine ⟨?_, fun _ => by rw [nI_1], ?_, ?_, ?_⟩
      · rw [rz_nr (by omega), u2_nr (by omega), u2_nr (by omega), rz_nr (by omega), u2_eq]; rfl
      · refine h.newF c3 (fun t i k h1 h2 => ?_) ?_ (fun k hk => ?_) (fun r k h1 h2 h3 => e r k (fun q => by have := h1 q; omega) h2 h3)
        · rw [up_ne (by omega), up_ne (by omega)]
        · rw [up_eq, nI_1]
        · rw [er, up_nt (by decide)]
          by_cases q : k = 0
          · subst q; rw [up_eq]; rfl
          · rw [up_nk q, h.2.2.1 na c3 k hk, if_neg (Nat.lt_irrefl _)]
            by_cases q2 : k = 1
            · rw [if_pos q2, if_pos q2]
            · rw [if_neg q2, if_neg q2, if_neg q]
      · have e10 : (10 : Int32).toInt = 10 := rfl
        have e22 : (22 : Int32).toInt = 22 := rfl
        rw [lt_ti, e10] at b1
        rw [le_ti, e22] at b2
        refine ⟨⟨by omega, z.2.1, z.2.2.1, z.2.2.2⟩, ?_, fun i hi => ?_, fun i hi => ?_, fun i hi => ?_, fun i hi => ?_, fun i hi => ?_, ?_⟩
        · rw [e 0 0 (by omega) (by omega) (by omega)]; exact zh
        · by_cases q : i = na
          · subst q; rw [er, if_neg (by decide), if_pos rfl]; omega
          · rw [e _ _ (by omega) (by omega) (by omega)]; exact i1 i (by omega)
        · exact (i2 i hi).cg (by omega) (e _ _ (by omega) (by omega) (by omega)) (e _ _ (by omega) (by omega) (by omega)) (e _ _ (by omega) (by omega) (by omega)) (e _ _ (by omega) (by omega) (by omega))
        · exact (i3 i hi).cg (fun k _ => e _ _ (by omega) (by omega) (by omega)) (by rw [e 0 0 (by omega) (by omega) (by omega)]; exact Int.le_refl _)
        · exact (i4 i hi).cg (fun k _ => e _ _ (by omega) (by omega) (by omega)) (by rw [e 0 0 (by omega) (by omega) (by omega)]; exact Int.le_refl _)
        · exact (i5 i hi).cg (fun k _ => e _ _ (by omega) (by omega) (by omega)) (by rw [e 0 0 (by omega) (by omega) (by omega)]; exact Int.le_refl _)
        · exact sumK_same hI (fun i hi => e _ _ (by omega) (by omega) (by omega))
      · exact (hT.up (by omega)).up (by omega)
    · rw [if_neg c1, if_pos c2]; exact Ok.no (T := 0) h hI hT (by simp) rfl
  · rw [if_pos b1, if_pos b2]; exact Ok.no (T := 0) h hI hT (by simp) rfl
  · rw [if_neg b1, if_neg b2, if_pos b4]; exact Ok.no (T := 0) h hI hT (by simp) rfl
theorem P_bed (h : Rl na nb nc nd g m) (hI : Iv na nb nc nd m) (hT : Tr g) (x : Int32) : Ok na nb (nc + (fX7_bed na nb nc nd 0 m x).2.2) nd (k23 (fX6_bed g x).1) (fX6_bed g x).1 (fX6_bed g x).2.1 (fX6_bed g x).2.2 (fX7_bed na nb nc nd 0 m x).1 (fX7_bed na nb nc nd 0 m x).2.1 := by
  obtain ⟨z, zh, i1, i2, i3, i4, i5, i6⟩ := id hI
  unfold fX6_bed fX7_bed
  rw [h.c]
  rcases rng_is x 5 40 with ⟨b1, b2, b3, b4⟩ | ⟨b1, b2⟩ | ⟨b1, b2, b3, b4⟩
  · rw [if_neg b1, if_pos b2, if_neg b4]
    have f := full_is (n := nc) (N := 5) z.2.2.1 (by decide)
    rcases (show (nI nc < 5 ∧ ¬ nI nc = 5 ∧ nc < 5) ∨ (¬ nI nc < 5 ∧ nI nc = 5) from f) with ⟨c1, c2, c3⟩ | ⟨c1, c2⟩
    · rw [if_pos c1, if_neg c2, nI_clamp (by omega)]
      dsimp only
      have er : rb 2 = 303 := rfl
      rw [er]
      have e : ∀ r k, (r = 0 → k ≠ 20) → r ≠ 303 + nc → r < 400 → (rz (u2 (rz (u2 m 0 20 0) (400 + 0) (fun _ => 0)) (400 + 0) 8 x) (303 + nc) (fun j => (u2 (rz (u2 m 0 20 0) (400 + 0) (fun _ => 0)) (400 + 0) 8 x) (400 + 0) j)) r k = m r k := by
        intro r k h1 h2 h3
        rw [rz_nr h2, u2_nr (by omega), rz_nr (by omega)]
        by_cases q : r = 0
        · subst q; rw [u2_nk (h1 rfl)]
        · rw [u2_nr q]
      have er : ∀ k, (rz (u2 (rz (u2 m 0 20 0) (400 + 0) (fun _ => 0)) (400 + 0) 8 x) (303 + nc) (fun j => (u2 (rz (u2 m 0 20 0) (400 + 0) (fun _ => 0)) (400 + 0) 8 x) (400 + 0) j)) (303 + nc) k = if k = 8 then x else 0 := by
        intro k
        rw [rz_eq]
        by_cases q : k = 8
        · subst q; rw [u2_eq]; rfl
        · rw [u2_nk q, if_neg q, rz_eq]
      refine ⟨?_, fun _ => by rw [nI_1], ?_, ?_, ?_⟩
      · rw [rz_nr (by omega), u2_nr (by omega), rz_nr (by omega), u2_eq]; rfl
      · refine h.newD c3 (fun t i k h1 h2 => ?_) ?_ (fun k hk => ?_) (fun r k h1 h2 h3 => e r k (fun q => by have := h1 q; omega) h2 h3)
        · rw [up_ne (by omega), up_ne (by omega)]
        · rw [up_eq, nI_1]
        · rw [er, cr_nt (by decide), cr_up3 (by decide), h.2.2.2.2.2.1 nc c3 k hk, if_neg (Nat.lt_irrefl _)]
          by_cases q : k = 8
          · rw [if_pos ⟨rfl, q⟩, if_pos q]
          · rw [if_neg (by omega), if_neg q]
      · have e5 : (5 : Int32).toInt = 5 := rfl
        have e40 : (40 : Int32).toInt = 40 := rfl
        rw [lt_ti, e5] at b1
        rw [le_ti, e40] at b2
        refine ⟨⟨z.1, z.2.1, by omega, z.2.2.2⟩, ?_, fun i hi => ?_, fun i hi => ?_, fun i hi => ?_, fun i hi => ?_, fun i hi => ?_, ?_⟩
        · rw [e 0 0 (by omega) (by omega) (by omega)]; exact zh
        · rw [e _ _ (by omega) (by omega) (by omega)]; exact i1 i (by omega)
        · exact (i2 i hi).cg (by omega) (e _ _ (by omega) (by omega) (by omega)) (e _ _ (by omega) (by omega) (by omega)) (e _ _ (by omega) (by omega) (by omega)) (e _ _ (by omega) (by omega) (by omega))
        · exact (i3 i hi).cg (fun k _ => e _ _ (by omega) (by omega) (by omega)) (by rw [e 0 0 (by omega) (by omega) (by omega)]; exact Int.le_refl _)
        · by_cases q : i = nc
          · subst q
            have e0 : (0 : Int32).toInt = 0 := rfl
            refine ⟨⟨fun f hf => ?_, ?_, ?_, ?_, ?_⟩, ?_, ?_, ?_, ?_, ?_, fun _ => ?_, ?_, ?_⟩
            · rw [er, er, if_neg (by omega), if_neg (by omega)]; decide
            · simp [er]
            · rw [er, if_neg (by decide)]; decide
            · rw [er, if_neg (by decide)]; decide
            · rw [er, if_neg (by decide)]; decide
            · unfold ptI
              rw [er, if_neg (by decide), e 0 0 (by omega) (by omega) (by omega), e0]; omega
            · unfold mtI; rw [er]; exact Or.inl rfl
            · unfold moI
              rw [er, er, if_neg (by decide), if_neg (by decide), e 0 0 (by omega) (by omega) (by omega), e0]; omega
            · rw [er, if_pos rfl]; omega
            · rw [er]; exact Or.inl rfl
            · rw [er, er]; exact ⟨rfl, rfl⟩
            · rw [er]; rfl
            · rw [er]; rfl
          · exact (i4 i (by omega)).cg (fun k _ => e _ _ (by omega) (by omega) (by omega)) (by rw [e 0 0 (by omega) (by omega) (by omega)]; exact Int.le_refl _)
        · exact (i5 i hi).cg (fun k _ => e _ _ (by omega) (by omega) (by omega)) (by rw [e 0 0 (by omega) (by omega) (by omega)]; exact Int.le_refl _)
        · exact sumK_same hI (fun i hi => e _ _ (by omega) (by omega) (by omega))
      · exact (hT.up (by omega)).up (by omega)
    · rw [if_neg c1, if_pos c2]; exact Ok.no (T := 0) h hI hT (by simp) rfl
  · rw [if_pos b1, if_pos b2]; exact Ok.no (T := 0) h hI hT (by simp) rfl
  · rw [if_neg b1, if_neg b2, if_pos b4]; exact Ok.no (T := 0) h hI hT (by simp) rfl
end GW
