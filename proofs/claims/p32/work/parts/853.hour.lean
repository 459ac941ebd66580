/-! ===== an hour ===== -/
section HR
variable {na nb nc nd T : Nat} {g g2 : Gd} {m m2 : Md}
def Sz (na nb nc nd : Nat) : Prop := na ≤ 6 ∧ nb ≤ 20 ∧ nc ≤ 5 ∧ nd ≤ 12
theorem Rl.baz (h : Rl na nb nc nd g m) (z : Sz na nb nc nd) {i k : Nat} (hi : i < nb) (hk : k < 6) : g 2 i k = m (200 + i) k := by
  have := z.2.1
  rw [h.2.2.2.1 i (by omega) k hk, if_pos hi]
theorem Rl.b3z (h : Rl na nb nc nd g m) (z : Sz na nb nc nd) {i k : Nat} (hi : i < nc) (hk : k < 11) : g 3 (3 + i) k = m (303 + i) k := by
  have := z.2.2.1
  rw [← cr_3 (g := g) (j := 3 + i) hk, h.2.2.2.2.2.1 i (by omega) k (by omega), if_pos hi]
theorem Rl.brz (h : Rl na nb nc nd g m) (z : Sz na nb nc nd) {i k : Nat} (hi : i < nc) (hk : k < 23) : cr g (3 + i) k = m (303 + i) k := by
  have := z.2.2.1
  rw [h.2.2.2.2.2.1 i (by omega) k hk, if_pos hi]
theorem Rl.l3z (h : Rl na nb nc nd g m) (z : Sz na nb nc nd) {i k : Nat} (hi : i < nd) (hk : k < 11) : g 3 (8 + i) k = m (308 + i) k := by
  have := z.2.2.2
  rw [← cr_3 (g := g) (j := 8 + i) hk, h.2.2.2.2.2.2.1 i (by omega) k (by omega), if_pos hi]
/-- baskets -/
theorem bask_loop {wm rn v4 : Int32} {m0 : Md} (z : Sz na nb nc nd) : ∀ (n f k : Nat) (a : Int32) (g1 : Gd) (m1 : Md), k + n = nb → n < f → Rl na nb nc nd g1 m1 → Tr g1 →
    (fX6_ageBaskets_L4 g f k a g1).1 = (fX7_pass_L30 na nb nc nd T m0 wm rn v4 n k a m1).1 ∧ Rl na nb nc nd (fX6_ageBaskets_L4 g f k a g1).2 (fX7_pass_L30 na nb nc nd T m0 wm rn v4 n k a m1).2 ∧ Tr (fX6_ageBaskets_L4 g f k a g1).2 ∧ (∀ r c, (r = 0 → c ≠ 5) → (200 ≤ r → r < 220 → c ≠ 3 ∧ c ≠ 4) → (fX7_pass_L30 na nb nc nd T m0 wm rn v4 n k a m1).2 r c = m1 r c) := by
  intro n
  induction n with
  | zero =>
    intro f k a g1 m1 hkn hf hR hT
    obtain ⟨f, rfl⟩ : ∃ f', f = f' + 1 := ⟨f - 1, by omega⟩
    have hc : g1 0 0 8 ≤ nI k := by rw [hR.b, show k = nb by omega]; exact Int32.le_refl _
    rw [fX6_ageBaskets_L4, if_pos hc]
    exact ⟨rfl, hR, hT, fun _ _ _ _ => rfl⟩
  | succ n ih =>
    intro f k a g1 m1 hkn hf hR hT
    obtain ⟨f, rfl⟩ : ∃ f', f = f' + 1 := ⟨f - 1, by omega⟩
    have hz := z.2.1
    have hkn2 : k < nb := by omega
    have hc : ¬ g1 0 0 8 ≤ nI k := by rw [hR.b]; exact nI_ge (by omega) (by omega)
    rw [fX6_ageBaskets_L4, if_neg hc, fX7_pass_L30]
    unfold fX0_spoilsInHour
    rw [hR.baz z hkn2 (k := 3) (by decide), hR.baz z hkn2 (k := 4) (by decide)]
    by_cases s3 : m1 (200 + k) 3 = 0
    · rw [if_pos s3, if_pos s3]
      by_cases a4 : 24 < m1 (200 + k) 4 + 1
      · rw [if_pos a4, if_pos a4]
        dsimp only
        rw [if_neg (by decide)]
        have e5 : (up (up g1 2 k 4 (m1 (200 + k) 4 + 1)) 2 k 3 3) 0 0 5 = m1 0 5 := by rw [up_nt (by decide), up_nt (by decide)]; exact hR.s (by decide)
        have e1 : (up (up g1 2 k 4 (m1 (200 + k) 4 + 1)) 2 k 3 3) 2 k 1 = m1 (200 + k) 1 := by rw [up_nk (by decide), up_nk (by decide)]; exact hR.baz z hkn2 (by decide)
        rw [e5, e1]
        obtain ⟨q1, q2, q3, q4⟩ := ih f (k + 1) (a + 1) _ _ (by omega) (by omega) (((hR.u2b (k := 4) (v := m1 (200 + k) 4 + 1) hkn2 hz (by decide)).u2b (k := 3) (v := 3) hkn2 hz (by decide)).u0 (k := 5) (v := m1 0 5 + m1 (200 + k) 1) (by decide)) (((hT.up (by omega)).up (by omega)).up (by omega))
        exact ⟨q1, q2, q3, fun r c h1 h2 => by rw [q4 r c h1 h2, show u2 (u2 (u2 m1 (200 + k) 4 (m1 (200 + k) 4 + 1)) (200 + k) 3 3) 0 5 (m1 0 5 + m1 (200 + k) 1) r c = u2 (u2 m1 (200 + k) 4 (m1 (200 + k) 4 + 1)) (200 + k) 3 3 r c from if_neg (fun q => h1 q.1 q.2), show u2 (u2 m1 (200 + k) 4 (m1 (200 + k) 4 + 1)) (200 + k) 3 3 r c = u2 m1 (200 + k) 4 (m1 (200 + k) 4 + 1) r c from if_neg (fun q => (h2 (by omega) (by omega)).1 q.2)]; exact if_neg (fun q => (h2 (by omega) (by omega)).2 q.2)⟩
      · rw [if_neg a4, if_neg a4]
        dsimp only
        rw [if_pos rfl]
        obtain ⟨q1, q2, q3, q4⟩ := ih f (k + 1) a _ _ (by omega) (by omega) (hR.u2b (k := 4) (v := m1 (200 + k) 4 + 1) hkn2 hz (by decide)) (hT.up (by omega))
        exact ⟨q1, q2, q3, fun r c h1 h2 => by rw [q4 r c h1 h2]; exact if_neg (fun q => (h2 (by omega) (by omega)).2 q.2)⟩
    · rw [if_neg s3, if_neg s3]
      dsimp only
      rw [if_pos rfl]
      exact ih f (k + 1) a g1 m1 (by omega) (by omega) hR hT
/-- tanks -/
def tstep (na nb nc nd T : Nat) (wm : Int32) (m1 : Md) (k : Nat) : Md := if m1 (300 + k) 0 = 0 then m1 else u2 (u2 m1 (300 + k) 2 (m1 (300 + k) 2 + 1)) (300 + k) 3 (m1 (300 + k) 3 + fX7_rises na nb nc nd T (u2 m1 (300 + k) 2 (m1 (300 + k) 2 + 1)) (300 + k) wm)
theorem L120_s {wm rn v4 v3 : Int32} {m0 m1 : Md} {n k : Nat} : fX7_pass_L120 na nb nc nd T m0 wm rn v4 v3 (n + 1) k m1 = fX7_pass_L120 na nb nc nd T m0 wm rn v4 v3 n (k + 1) (tstep na nb nc nd T wm m1 k) := by
  rw [fX7_pass_L120]
  unfold tstep
  split <;> rfl
theorem tstep_o {wm : Int32} {k r c : Nat} (h : r ≠ 300 + k ∨ (c ≠ 2 ∧ c ≠ 3)) : tstep na nb nc nd T wm m k r c = m r c := by
  unfold tstep
  split
  · rfl
  · rw [show u2 (u2 m (300 + k) 2 (m (300 + k) 2 + 1)) (300 + k) 3 (m (300 + k) 3 + fX7_rises na nb nc nd T (u2 m (300 + k) 2 (m (300 + k) 2 + 1)) (300 + k) wm) r c = u2 m (300 + k) 2 (m (300 + k) 2 + 1) r c from if_neg (by omega)]
    exact if_neg (by omega)
theorem tstep_R (h : Rl na nb nc nd g m) {k : Nat} (hk : k < 3) {wm : Int32} : Rl na nb nc nd (fX5_passHour g k wm) (tstep na nb nc nd T wm m k) := by
  unfold fX5_passHour tstep fX5_pointsAnHour fX7_rises
  rw [h.t3 hk (k := 0) (by decide), h.t3 hk (k := 2) (by decide), h.t3 hk (k := 3) (by decide), u2_nk (by decide)]
  rcases empty_is (x := m (300 + k) 0) with ⟨b1, b2⟩ | ⟨b1, b2⟩
  · rw [if_pos b1, if_neg b2]
    exact (h.u3t hk (by decide)).u3t hk (by decide)
  · rw [if_neg (by rw [b1]; decide), if_pos b2]; exact h
theorem tstep_I {k : Nat} {wm : Int32} (h : tankI (u2 m 0 0 (m2 0 0)) k) (hw : 0 ≤ wm.toInt ∧ wm.toInt ≤ 40) (hh : (m 0 0).toInt = (m2 0 0).toInt + 1) (hh2 : (m2 0 0).toInt ≤ 20000) : tankI (tstep na nb nc nd T wm m k) k := by
  obtain ⟨c1, c2, c3⟩ := h
  have e : ∀ c, u2 m 0 0 (m2 0 0) (300 + k) c = m (300 + k) c := fun c => u2_nr (by omega)
  have c1 : mixI m (300 + k) 300 := c1.cg (fun c _ => (e c).symm)
  have k0 := c1.k0
  rw [e, e, e, e, e] at c3
  have e0 : tstep na nb nc nd T wm m k 0 0 = m 0 0 := tstep_o (by omega)
  refine ⟨c1.cg2 (fun c _ h => tstep_o (by omega)), ?_, ?_⟩
  · unfold ptI at c2 ⊢
    rw [e, u2_eq] at c2
    rw [e0]
    unfold tstep
    split
    · omega
    · rw [u2_eq]
      unfold fX7_rises
      rw [u2_nk (by decide)]
      have q4 : (4 : Int32).toInt = 4 := rfl
      have q100 : (100 : Int32).toInt = 100 := rfl
      have a1 : (wm / 4).toInt = wm.toInt / 4 := by rw [ti_div hw.1 (by decide), q4]
      have a2 : (m (300 + k) 0 / 100).toInt = (m (300 + k) 0).toInt / 100 := by rw [ti_div k0.1 (by decide), q100]
      have a3 : (wm / 4 + m (300 + k) 0 / 100).toInt = wm.toInt / 4 + (m (300 + k) 0).toInt / 100 := by rw [ti_add (by omega) (by omega), a1, a2]
      rw [ti_add (by omega) (by omega), a3]
      omega
  · rw [tstep_o (by omega), tstep_o (by omega), tstep_o (by omega), tstep_o (by omega), tstep_o (by omega)]
    exact c3
/-- lots -/
theorem lots_loop {wm rn v4 v3 : Int32} {m0 : Md} (z : Sz na nb nc nd) : ∀ (n f k : Nat) (g1 : Gd) (m1 : Md), k + n = nd → n < f → Rl na nb nc nd g1 m1 → Tr g1 → (∀ i, i < nd → m1 (308 + i) 10 = 0 ∨ m1 (308 + i) 10 = 1) →
    Rl na nb nc nd (fX6_ageLots_L2 g f k g1) (fX7_pass_L307 na nb nc nd T m0 wm rn v4 v3 n k m1) ∧ Tr (fX6_ageLots_L2 g f k g1) ∧ (∀ r c, (∀ i, k ≤ i → i < nd → ¬ (r = 308 + i ∧ c = 2)) → fX7_pass_L307 na nb nc nd T m0 wm rn v4 v3 n k m1 r c = m1 r c) ∧ (∀ i, k ≤ i → i < nd → fX7_pass_L307 na nb nc nd T m0 wm rn v4 v3 n k m1 (308 + i) 2 = m1 (308 + i) 2 + m1 (308 + i) 10) := by
  intro n
  induction n with
  | zero =>
    intro f k g1 m1 hkn hf hR hT hs
    obtain ⟨f, rfl⟩ : ∃ f', f = f' + 1 := ⟨f - 1, by omega⟩
    have hc : g1 0 0 10 ≤ nI k := by rw [hR.d, show k = nd by omega]; exact Int32.le_refl _
    rw [fX6_ageLots_L2, if_pos hc]
    exact ⟨hR, hT, fun _ _ _ => rfl, fun i h1 h2 => absurd h2 (by omega)⟩
  | succ n ih =>
    intro f k g1 m1 hkn hf hR hT hs
    obtain ⟨f, rfl⟩ : ∃ f', f = f' + 1 := ⟨f - 1, by omega⟩
    have hz := z.2.2.2
    have hkn2 : k < nd := by omega
    have hc : ¬ g1 0 0 10 ≤ nI k := by rw [hR.d]; exact nI_ge (by omega) (by omega)
    have key : ∀ (G : Gd), Rl na nb nc nd G (u2 m1 (308 + k) 2 (m1 (308 + k) 2 + m1 (308 + k) 10)) → Tr G → Rl na nb nc nd (fX6_ageLots_L2 g f (k + 1) G) (fX7_pass_L307 na nb nc nd T m0 wm rn v4 v3 (n + 1) k m1) ∧ Tr (fX6_ageLots_L2 g f (k + 1) G) ∧ (∀ r c, (∀ i, k ≤ i → i < nd → ¬ (r = 308 + i ∧ c = 2)) → fX7_pass_L307 na nb nc nd T m0 wm rn v4 v3 (n + 1) k m1 r c = m1 r c) ∧ (∀ i, k ≤ i → i < nd → fX7_pass_L307 na nb nc nd T m0 wm rn v4 v3 (n + 1) k m1 (308 + i) 2 = m1 (308 + i) 2 + m1 (308 + i) 10) := by
      intro G hG hTG
      rw [fX7_pass_L307]
      obtain ⟨q1, q2, q3, q4⟩ := ih f (k + 1) G _ (by omega) (by omega) hG hTG (fun i hi => by rw [u2_nk (by decide)]; exact hs i hi)
      refine ⟨q1, q2, fun r c h => ?_, fun i h1 h2 => ?_⟩
      · rw [q3 r c (fun i h1 h2 => h i (by omega) h2)]
        exact if_neg (h k (Nat.le_refl _) hkn2)
      · by_cases e : i = k
        · subst e
          rw [q3 _ _ (fun j h1 h2 q => by omega), u2_eq]
        · rw [q4 i (by omega) h2, u2_nr (by omega), u2_nr (by omega)]
    rw [fX6_ageLots_L2, if_neg hc, hR.l3z z hkn2 (k := 10) (by decide)]
    by_cases s : m1 (308 + k) 10 = 0
    · rw [if_pos s]
      refine key g1 (hR.cg (fun c hc => u2_nr (by omega)) (fun r c h1 h2 => ?_)) hT
      rw [s, Int32.add_zero]
      unfold u2
      split
      · rename_i q; rw [q.1, q.2]
      · rfl
    · rw [if_neg s, hR.l3z z hkn2 (k := 2) (by decide)]
      have s1 := (hs k hkn2).resolve_left s
      refine key _ ?_ (hT.up (by omega))
      rw [s1]
      exact hR.u3l hkn2 hz (by decide)
end HR
