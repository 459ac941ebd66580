/-! ===== pulp, wash, whole ===== -/
theorem cr_up4 {g : Gd} {j f j2 k2 : Nat} {v : Int32} (hf : f < 6) : cr (up g 4 j f v) j2 k2 = if j2 = j ∧ k2 = 11 + f then v else cr g j2 k2 := by
  unfold cr
  by_cases h : k2 < 11
  · rw [if_pos h, if_pos h, if_neg (by omega), up_nt (by decide)]
  · rw [if_neg h, if_neg h]
    by_cases h2 : k2 < 17
    · rw [if_pos h2, if_pos h2]
      by_cases e : j2 = j ∧ k2 = 11 + f
      · obtain ⟨rfl, rfl⟩ := e
        rw [if_pos ⟨rfl, rfl⟩, Nat.add_sub_cancel_left, up_eq]
      · rw [if_neg e, up_ne (by omega)]
    · rw [if_neg h2, if_neg h2, if_neg (by omega), up_nt (by decide)]
theorem cr_up5 {g : Gd} {j f j2 k2 : Nat} {v : Int32} (hf : f < 6) (hk : k2 < 23) : cr (up g 5 j f v) j2 k2 = if j2 = j ∧ k2 = 17 + f then v else cr g j2 k2 := by
  unfold cr
  by_cases h : k2 < 11
  · rw [if_pos h, if_pos h, if_neg (by omega), up_nt (by decide)]
  · rw [if_neg h, if_neg h]
    by_cases h2 : k2 < 17
    · rw [if_pos h2, if_pos h2, if_neg (by omega), up_nt (by decide)]
    · rw [if_neg h2, if_neg h2]
      by_cases e : j2 = j ∧ k2 = 17 + f
      · obtain ⟨rfl, rfl⟩ := e
        rw [if_pos ⟨rfl, rfl⟩, Nat.add_sub_cancel_left, up_eq]
      · rw [if_neg e, up_ne (by omega)]
section MX9
variable {na nb nc nd T : Nat} {g g2 : Gd} {m m2 : Md}
theorem addBasket_cr {j b : Nat} {sm : Int32} (hf : (g 2 b 0).toNatClampNeg < 6) : ∀ k, k < 23 → cr (fX4_addBasket g j b sm) j k = if k = 0 then g 3 j 0 + sm else if k = 1 then fX6_meanByKilos (g 3 j 0) (g 3 j 1) sm (g 2 b 2) else if k = 11 + (g 2 b 0).toNatClampNeg then cr g j k + sm else if k = 17 + (g 2 b 0).toNatClampNeg ∧ ¬ g 2 b 5 = 0 then cr g j k + sm else cr g j k := by
  intro k hk
  unfold fX4_addBasket
  by_cases c : g 2 b 5 = 0
  · rw [if_pos c, cr_up3 (by decide), cr_up4 hf, cr_up3 (by decide)]
    by_cases k0 : k = 0
    · rw [if_pos ⟨rfl, k0⟩, if_pos k0]
    · rw [if_neg (by omega), if_neg k0]
      by_cases k1 : k = 1
      · subst k1; rw [if_neg (by omega), if_pos ⟨rfl, rfl⟩, if_pos rfl]
      · rw [if_neg k1]
        by_cases kf : k = 11 + (g 2 b 0).toNatClampNeg
        · rw [if_pos ⟨rfl, kf⟩, if_pos kf, kf, cr_4 hf]
        · rw [if_neg (by omega), if_neg (by omega), if_neg kf, if_neg (fun z => z.2 c)]
  · rw [if_neg c, cr_up3 (by decide), cr_up5 hf hk, cr_up4 hf, cr_up3 (by decide)]
    by_cases k0 : k = 0
    · rw [if_pos ⟨rfl, k0⟩, if_pos k0]
    · rw [if_neg (by omega), if_neg k0]
      by_cases k1 : k = 1
      · subst k1; rw [if_neg (by omega), if_neg (by omega), if_pos ⟨rfl, rfl⟩, if_pos rfl]
      · rw [if_neg k1]
        by_cases kf : k = 11 + (g 2 b 0).toNatClampNeg
        · rw [if_neg (by omega), if_pos ⟨rfl, kf⟩, if_pos kf, kf, cr_4 hf]
        · rw [if_neg kf]
          by_cases kc : k = 17 + (g 2 b 0).toNatClampNeg
          · rw [if_pos ⟨rfl, kc⟩, if_pos ⟨kc, c⟩, kc, cr_5 hf]
          · rw [if_neg (by omega), if_neg (by omega), if_neg (by omega), if_neg (fun z => kc z.1)]
theorem addBasket_o (g : Gd) (j b : Nat) (sm : Int32) : only3 g (fX4_addBasket g j b sm) j := by
  unfold fX4_addBasket
  split <;> repeat (first | exact only3.rf | refine only3.upd ?_ (by decide) (by decide))
/-- the row made of a basket -/
theorem mixOf_at {x ki ri su : Int32} : ∀ k, fX7_mixOf na nb nc nd T m x ki ri su (400 + T) k = if k = 17 + x.toNatClampNeg then (if su = 0 then 0 else ki) else if k = 11 + x.toNatClampNeg then ki else if k = 1 then ri else if k = 0 then ki else 0 := by
  intro k
  unfold fX7_mixOf
  split <;> rename_i hs
  all_goals
    by_cases q1 : k = 17 + x.toNatClampNeg
    · subst q1; rw [u2_eq, if_pos rfl]
    · rw [u2_nk q1, if_neg q1]
      by_cases q2 : k = 11 + x.toNatClampNeg
      · subst q2; rw [u2_eq, if_pos rfl]
      · rw [u2_nk q2, if_neg q2]
        by_cases q3 : k = 1
        · subst q3; rw [u2_eq, if_pos rfl]
        · rw [u2_nk q3, if_neg q3]
          by_cases q4 : k = 0
          · subst q4; rw [u2_eq, if_pos rfl]
          · rw [u2_nk q4, if_neg q4, rz_eq]
theorem mixOf_nr {x ki ri su : Int32} {r k : Nat} (h : r ≠ 400 + T) : fX7_mixOf na nb nc nd T m x ki ri su r k = m r k := by
  unfold fX7_mixOf
  split <;> rw [u2_nr h, u2_nr h, u2_nr h, u2_nr h, rz_nr h]
theorem mixOf_I {x ki ri su : Int32} {M : Md} {r : Nat} {K : Int} (hr : ∀ k, M r k = if k = 17 + x.toNatClampNeg then (if su = 0 then 0 else ki) else if k = 11 + x.toNatClampNeg then ki else if k = 1 then ri else if k = 0 then ki else 0) (hx : x.toNatClampNeg < 6) (hk : 0 ≤ ki.toInt) (hK : ki.toInt ≤ K) (h0 : 0 ≤ ri.toInt ∧ ri.toInt ≤ 100) : mixI M r K := by
  have e0 : (0 : Int32).toInt = 0 := rfl
  generalize x.toNatClampNeg = f at hr hx
  refine ⟨fun f2 hf2 => ?_, ?_, ?_, ?_, ?_⟩
  · rw [hr, hr]
    by_cases q : f2 = f
    · subst q
      rw [if_pos rfl, if_neg (show ¬ 11 + f2 = 17 + f2 by omega), if_pos rfl]
      by_cases s : su = 0
      · rw [if_pos s, e0]; omega
      · rw [if_neg s]; omega
    · rw [if_neg (by omega), if_neg (by omega), if_neg (by omega), if_neg (by omega), if_neg (by omega), if_neg (by omega), if_neg (by omega), if_neg (by omega)]
      decide
  · match f, hx with
    | 0, _ => simp [hr]
    | 1, _ => simp [hr]
    | 2, _ => simp [hr]
    | 3, _ => simp [hr]
    | 4, _ => simp [hr]
    | 5, _ => simp [hr]
  · rw [hr, if_neg (by omega), if_neg (by omega), if_neg (by omega), if_pos rfl]; exact hK
  · rw [hr, if_neg (by omega), if_neg (by omega), if_pos rfl]; exact h0.1
  · rw [hr, if_neg (by omega), if_neg (by omega), if_pos rfl]; exact h0.2
theorem come_I {a b c d t r o : Nat} {K1 K2 K : Int} {M : Md} (hr : ∀ k, k < 23 → k = 0 ∨ k = 1 ∨ 11 ≤ k → M r k = fX7_come a b c d t m r o r k) (h1 : mixI m r K1) (h2 : mixI m o K2) (b1 : K1 ≤ 2000) (b2 : K2 ≤ 2000) (hp : 0 < (m r 0).toInt + (m o 0).toInt) (hK : (m r 0).toInt + (m o 0).toInt ≤ K) : mixI M r K := by
  have k1 := h1.k0
  have k2 := h2.k0
  have at_ : ∀ k, k < 23 → 11 ≤ k → M r k = m r k + m o k := fun k hk hk2 => by
    rw [hr k hk (by omega), come_at a b c d t m r o k hk, if_neg (by omega), if_pos (by omega)]
  have a11 : ∀ f, f < 6 → (M r (11 + f)).toInt = (m r (11 + f)).toInt + (m o (11 + f)).toInt := fun f hf => by
    have p1 := h1.k hf
    have p2 := h2.k hf
    have p3 := h1.kle hf
    have p4 := h2.kle hf
    rw [at_ _ (by omega) (by omega), ti_add (by omega) (by omega)]
  have a17 : ∀ f, f < 6 → (M r (17 + f)).toInt = (m r (17 + f)).toInt + (m o (17 + f)).toInt := fun f hf => by
    have p1 := h1.1 f hf
    have p2 := h2.1 f hf
    have p3 := h1.kle hf
    have p4 := h2.kle hf
    rw [at_ _ (by omega) (by omega), ti_add (by omega) (by omega)]
  have a0 : (M r 0).toInt = (m r 0).toInt + (m o 0).toInt := by
    rw [hr 0 (by decide) (by decide), come_at a b c d t m r o 0 (by decide), if_neg (by decide), if_pos (by decide), ti_add (by omega) (by omega)]
  have a1 := hr 1 (by decide) (by decide)
  rw [come_at a b c d t m r o 1 (by decide), if_pos rfl] at a1
  have hm := mean_b (k := m r 0) (v := m r 1) (k2 := m o 0) (v2 := m o 1) (M := 100) k1.1 (by omega) k2.1 (by omega) hp h1.2.2.2.1 h1.2.2.2.2 h2.2.2.2.1 h2.2.2.2.2 (by decide)
  refine ⟨fun f hf => ?_, ?_, ?_, ?_, ?_⟩
  · have p1 := h1.1 f hf
    have p2 := h2.1 f hf
    rw [a11 f hf, a17 f hf]; omega
  · have s1 := h1.2.1
    have s2 := h2.2.1
    have q0 := a11 0 (by decide)
    have q1 := a11 1 (by decide)
    have q2 := a11 2 (by decide)
    have q3 := a11 3 (by decide)
    have q4 := a11 4 (by decide)
    have q5 := a11 5 (by decide)
    simp only [Nat.reduceAdd] at q0 q1 q2 q3 q4 q5
    omega
  · rw [a0]; exact hK
  · rw [a1]; exact hm.1
  · rw [a1]; exact hm.2
theorem come_nr' {a b c d t r o r2 k : Nat} (h : r2 ≠ r) : fX7_come a b c d t m r o r2 k = m r2 k := come_nr h
theorem come_o {a b c d t r o k : Nat} (h : k < 11) (h0 : k ≠ 0) (h1 : k ≠ 1) : fX7_come a b c d t m r o r k = m r k := by
  rw [come_at a b c d t m r o k (by omega), if_neg h1, if_neg (by omega)]
theorem pos_le {x y : Int32} (h : 0 < x.toInt + y.toInt) (h1 : x.toInt + y.toInt < 2147483648) : ¬ x + y ≤ 0 := by
  have e0 : (0 : Int32).toInt = 0 := rfl
  rw [le_ti, e0, ti_add (by omega) h1]; omega
/-- a basket that comes to a mix, on both sides -/
theorem basket_eq {a b c d t' : Nat} {j r bk : Nat} {sm su : Int32} {M1 : Md} (h : ∀ k, k < 23 → cr g j k = M1 r k) (hf : (g 2 bk 0).toNatClampNeg < 6) (ho : ∀ k, M1 (400 + T) k = if k = 17 + (g 2 bk 0).toNatClampNeg then (if su = 0 then 0 else sm) else if k = 11 + (g 2 bk 0).toNatClampNeg then sm else if k = 1 then g 2 bk 2 else if k = 0 then sm else 0) (hs : su = 0 ↔ g 2 bk 5 = 0) (hk : ¬ M1 r 0 + sm ≤ 0) : ∀ k, k < 23 → cr (fX4_addBasket g j bk sm) j k = fX7_come a b c d t' M1 r (400 + T) r k := by
  intro k hk9
  have e0 : g 3 j 0 = M1 r 0 := h 0 (by decide)
  have e1 : g 3 j 1 = M1 r 1 := h 1 (by decide)
  have o0 : M1 (400 + T) 0 = sm := by rw [ho, if_neg (by omega), if_neg (by omega), if_neg (by omega), if_pos rfl]
  have o1 : M1 (400 + T) 1 = g 2 bk 2 := by rw [ho, if_neg (by omega), if_neg (by omega), if_pos rfl]
  rw [addBasket_cr hf k hk9, come_at a b c d t' M1 r (400 + T) k hk9]
  by_cases k0 : k = 0
  · subst k0; rw [if_pos rfl, if_neg (by decide), if_pos (by decide), o0, e0]
  · rw [if_neg k0]
    by_cases k1 : k = 1
    · rw [if_pos k1, if_pos k1, e0, e1, o0, o1, mean_eq hk]
    · rw [if_neg k1, if_neg k1, h k hk9]
      by_cases kf : k = 11 + (g 2 bk 0).toNatClampNeg
      · rw [if_pos kf, if_pos (by omega), ho, if_neg (by omega), if_pos kf]
      · rw [if_neg kf]
        by_cases kc : k = 17 + (g 2 bk 0).toNatClampNeg
        · rw [if_pos (show k = 0 ∨ 11 ≤ k by omega), ho, if_pos kc]
          by_cases s : su = 0
          · rw [if_neg (fun z => z.2 (hs.mp s)), if_pos s, Int32.add_zero]
          · rw [if_pos ⟨kc, fun z => s (hs.mpr z)⟩, if_neg s]
        · rw [if_neg (fun z => kc z.1)]
          by_cases kk : k = 0 ∨ 11 ≤ k
          · rw [if_pos kk, ho, if_neg kc, if_neg kf, if_neg k1, if_neg k0, Int32.add_zero]
          · rw [if_neg kk]
theorem takes_is (h : Rl na nb nc nd g m) {t : Nat} (ht : t < 3) {sm : Int32} (h0 : 0 ≤ sm.toInt) (h1 : sm.toInt ≤ 200) : (fX5_takes g t sm = 0 ∧ ¬ m (300 + t) 0 = 0 ∧ (8 < m (300 + t) 2 ∨ (¬ 8 < m (300 + t) 2 ∧ 300 < m (300 + t) 0 + sm))) ∨ (¬ fX5_takes g t sm = 0 ∧ (m (300 + t) 0 = 0 ∨ (¬ m (300 + t) 0 = 0 ∧ ¬ 8 < m (300 + t) 2 ∧ ¬ 300 < m (300 + t) 0 + sm))) := by
  have e300 : (300 : Int32).toInt = 300 := rfl
  unfold fX5_takes
  rw [h.t3 ht (by decide), h.t3 ht (by decide)]
  rcases empty_is (x := m (300 + t) 0) with ⟨b1, b2⟩ | ⟨b1, b2⟩
  · rw [if_pos b1]
    by_cases a : 8 < m (300 + t) 2
    · rw [if_pos a]; exact Or.inl ⟨rfl, b2, Or.inl a⟩
    · rw [if_neg a]
      by_cases r : 300 < m (300 + t) 0 + sm
      · rw [if_pos r]; exact Or.inl ⟨rfl, b2, Or.inr ⟨a, r⟩⟩
      · rw [if_neg r]; exact Or.inr ⟨by decide, Or.inr ⟨b2, a, r⟩⟩
  · rw [if_neg (by rw [b1]; decide), b2, Int32.zero_add, if_neg (by rw [lt_ti, e300]; omega)]
    exact Or.inr ⟨by decide, Or.inl rfl⟩
theorem half_b {x : Int32} (h0 : 0 ≤ x.toInt) (h1 : x.toInt ≤ 200) : 0 ≤ (x / 2).toInt ∧ (x / 2).toInt ≤ 100 := by
  have e2 : (2 : Int32).toInt = 2 := rfl
  rw [ti_div h0 (by decide), e2]; omega
theorem ne0_pos {x : Int32} (h0 : 0 ≤ x.toInt) (h : ¬ x = 0) : 0 < x.toInt := by
  have e0 : (0 : Int32).toInt = 0 := rfl
  have : x.toInt ≠ 0 := fun e => h (ti_eq (by rw [e, e0]))
  omega
theorem pulp_core (h : Rl na nb nc nd g m) (hI : Iv na nb nc nd m) (hT : Tr g) {x t : Nat} {sm su v v2 : Int32} {M1 : Md} (hx : x < nb) (ht : t < 3) (h0 : 0 < sm.toInt) (h1 : sm.toInt ≤ 100) (hk : (m (300 + t) 0).toInt + sm.toInt ≤ 300) (hs : su = 0 ↔ m (200 + x) 5 = 0) (e0 : ∀ k, k < 7 → M1 0 k = m 0 k) (e20 : M1 0 20 = 0) (e : ∀ r k, 100 ≤ r → r < 400 → M1 r k = m r k) (ho : ∀ k, M1 (400 + 0) k = if k = 17 + (m (200 + x) 0).toNatClampNeg then (if su = 0 then 0 else sm) else if k = 11 + (m (200 + x) 0).toNatClampNeg then sm else if k = 1 then m (200 + x) 2 else if k = 0 then sm else 0) :
    Ok na nb nc nd 0 0 ((fX4_addBasket (up g 2 x 3 1) t x sm) 3 t 0) (up (fX4_addBasket (up g 2 x 3 1) t x sm) 0 0 5 ((fX4_addBasket (up g 2 x 3 1) t x sm) 0 0 5 + ((fX4_addBasket (up g 2 x 3 1) t x sm) 2 x 1 - sm)))
      ((fX7_come na nb nc nd (0 + 1) M1 (300 + t) (400 + 0)) (300 + t) 0) (u2 (u2 (fX7_come na nb nc nd (0 + 1) M1 (300 + t) (400 + 0)) (200 + x) 3 1) 0 5 ((fX7_come na nb nc nd (0 + 1) M1 (300 + t) (400 + 0)) 0 5 + ((fX7_come na nb nc nd (0 + 1) M1 (300 + t) (400 + 0)) (200 + x) 1 - sm))) := by
  obtain ⟨z, zh, i1, i2, i3, i4, i5, i6⟩ := id hI
  have hb := i2 x hx
  have htk := i3 t ht
  have hf : (m (200 + x) 0).toNatClampNeg < 6 := by
    have c := clamp_ti hb.1.1
    have c2 := hb.1.2
    omega
  have ha := addBasket_o (up g 2 x 3 1) t x sm
  have hR1 : Rl na nb nc nd g M1 := h.cg e0 e
  have hR2 := hR1.u2b (i := x) (k := 3) (v := 1) hx z.2.1 (by decide)
  have b0 : (up g 2 x 3 1) 2 x 0 = m (200 + x) 0 := by rw [up_nk (by decide)]; exact h.ba hI hx (by decide)
  have b2 : (up g 2 x 3 1) 2 x 2 = m (200 + x) 2 := by rw [up_nk (by decide)]; exact h.ba hI hx (by decide)
  have b5 : (up g 2 x 3 1) 2 x 5 = m (200 + x) 5 := by rw [up_nk (by decide)]; exact h.ba hI hx (by decide)
  have hk2 : ¬ M1 (300 + t) 0 + sm ≤ 0 := by
    have := htk.1.k0
    rw [e _ _ (by omega) (by omega)]
    exact pos_le (by omega) (by omega)
  have hrow : ∀ k, k < 23 → cr (fX4_addBasket (up g 2 x 3 1) t x sm) t k = fX7_come na nb nc nd (0 + 1) M1 (300 + t) (400 + 0) (300 + t) k := by
    refine basket_eq (T := 0) (su := su) (fun k hk9 => ?_) (by rw [b0]; exact hf) (by rw [b0, b2]; exact ho) (by rw [b5]; exact hs) hk2
    rw [cr_nt (by decide), h.tr ht hk9, e _ _ (by omega) (by omega)]
  have hR3 : Rl na nb nc nd (fX4_addBasket (up g 2 x 3 1) t x sm) (u2 (fX7_come na nb nc nd (0 + 1) M1 (300 + t) (400 + 0)) (200 + x) 3 1) := by
    refine hR2.row (j := t) (by omega) ha (fun i q _ => by omega) (fun i q => by omega) (fun k hk9 => ?_) (fun r k q1 q2 => ?_)
    · rw [u2_nr (by omega)]; exact hrow k hk9
    · by_cases q : r = 200 + x
      · subst q
        by_cases q3 : k = 3
        · subst q3; rw [u2_eq, u2_eq]
        · rw [u2_nk q3, u2_nk q3, come_nr (by omega)]
      · rw [u2_nr q, u2_nr q, come_nr q1]
  have c5 : (fX4_addBasket (up g 2 x 3 1) t x sm) 0 0 5 = m 0 5 := by rw [ha 0 0 5 (by omega), up_nt (by decide)]; exact h.s (by decide)
  have c1 : (fX4_addBasket (up g 2 x 3 1) t x sm) 2 x 1 = m (200 + x) 1 := by rw [ha 2 x 1 (by omega), up_nk (by decide)]; exact h.ba hI hx (by decide)
  have d5 : (fX7_come na nb nc nd (0 + 1) M1 (300 + t) (400 + 0)) 0 5 = m 0 5 := by rw [come_nr (by omega)]; exact e0 5 (by decide)
  have d1 : (fX7_come na nb nc nd (0 + 1) M1 (300 + t) (400 + 0)) (200 + x) 1 = m (200 + x) 1 := by rw [come_nr (by omega)]; exact e _ _ (by omega) (by omega)
  rw [c5, c1, d5, d1]
  have hmix : mixI M1 (300 + t) 300 := htk.1.cg (fun k _ => e _ _ (by omega) (by omega))
  have ho0 : M1 (400 + 0) 0 = sm := by rw [ho, if_neg (by omega), if_neg (by omega), if_neg (by omega), if_pos rfl]
  have hmo : mixI M1 (400 + 0) 200 := mixOf_I ho hf (by omega) (by omega) hb.2.2.1
  have cc : ∀ r k, (r ≠ 0 ∨ k ≠ 5) → (r ≠ 200 + x ∨ k ≠ 3) → u2 (u2 (fX7_come na nb nc nd (0 + 1) M1 (300 + t) (400 + 0)) (200 + x) 3 1) 0 5 (m 0 5 + (m (200 + x) 1 - sm)) r k = fX7_come na nb nc nd (0 + 1) M1 (300 + t) (400 + 0) r k := by
    intro r k q1 q2
    rw [show u2 (u2 (fX7_come na nb nc nd (0 + 1) M1 (300 + t) (400 + 0)) (200 + x) 3 1) 0 5 (m 0 5 + (m (200 + x) 1 - sm)) r k = u2 (fX7_come na nb nc nd (0 + 1) M1 (300 + t) (400 + 0)) (200 + x) 3 1 r k from if_neg (by omega)]
    exact if_neg (by omega)
  have c00 : u2 (u2 (fX7_come na nb nc nd (0 + 1) M1 (300 + t) (400 + 0)) (200 + x) 3 1) 0 5 (m 0 5 + (m (200 + x) 1 - sm)) 0 0 = m 0 0 := by
    rw [cc 0 0 (by omega) (by omega), come_nr (by omega)]; exact e0 0 (by decide)
  refine ⟨?_, fun _ => hrow 0 (by decide), hR3.u0 (by decide), ?_, ?_⟩
  · rw [cc 0 20 (by omega) (by omega), come_nr (by omega)]; exact e20
  · refine hI.of ⟨by rw [c00]; exact Int.le_refl _, by rw [c00]; exact zh.2⟩ (fun i hi => ?_) (fun i hi k hk => ?_) (fun i hi => ?_) (fun i hi => Or.inl (fun k _ => ?_)) (fun i hi => Or.inl (fun k _ => ?_)) (sumK_same hI (fun i hi => ?_))
    · rw [cc _ _ (by omega) (by omega), come_nr (by omega)]; exact e _ _ (by omega) (by omega)
    · rw [cc _ _ (by omega) (by omega), come_nr (by omega)]; exact e _ _ (by omega) (by omega)
    · by_cases q : i = t
      · subst q
        refine Or.inr ⟨?_, ?_, ?_, ?_, ?_, ?_, ?_⟩
        · exact come_I (m := M1) (o := 400 + 0) (K1 := 300) (K2 := 200) (fun k hk9 _ => cc _ _ (by omega) (by omega)) hmix hmo (by decide) (by decide) (by have := hmix.k0; rw [ho0]; omega) (by rw [ho0, e _ _ (by omega) (by omega)]; exact hk)
        · refine htk.2.1.cg ?_ (by rw [c00]; exact Int.le_refl _)
          rw [cc _ _ (by omega) (by omega), come_o (by decide) (by decide) (by decide)]; exact e _ _ (by omega) (by omega)
        · rw [cc _ _ (by omega) (by omega), come_o (by decide) (by decide) (by decide), e _ _ (by omega) (by omega)]; exact htk.2.2.1
        · rw [cc _ _ (by omega) (by omega), come_o (by decide) (by decide) (by decide), e _ _ (by omega) (by omega)]; exact htk.2.2.2.1
        · rw [cc _ _ (by omega) (by omega), come_o (by decide) (by decide) (by decide), e _ _ (by omega) (by omega)]; exact htk.2.2.2.2.1
        · rw [cc _ _ (by omega) (by omega), come_o (by decide) (by decide) (by decide), e _ _ (by omega) (by omega)]; exact htk.2.2.2.2.2.1
        · rw [cc _ _ (by omega) (by omega), come_o (by decide) (by decide) (by decide), e _ _ (by omega) (by omega)]; exact htk.2.2.2.2.2.2
      · refine Or.inl (fun k _ => ?_)
        rw [cc _ _ (by omega) (by omega), come_nr (by omega)]; exact e _ _ (by omega) (by omega)
    · rw [cc _ _ (by omega) (by omega), come_nr (by omega)]; exact e _ _ (by omega) (by omega)
    · rw [cc _ _ (by omega) (by omega), come_nr (by omega)]; exact e _ _ (by omega) (by omega)
    · rw [cc _ _ (by omega) (by omega), come_nr (by omega)]; exact e _ _ (by omega) (by omega)
  · refine Tr.up ?_ (by omega)
    unfold Tr
    rw [ha 3 20 0 (by omega), up_nt (by decide)]; exact hT
theorem P_pulp (h : Rl na nb nc nd g m) (hI : Iv na nb nc nd m) (hT : Tr g) (x t : Int32) : Ok na nb nc nd (k13 (fX6_pulp g x t).1) (fX6_pulp g x t).1 (fX6_pulp g x t).2.1 (fX6_pulp g x t).2.2 (fX7_pulp na nb nc nd 0 m x t).1 (fX7_pulp na nb nc nd 0 m x t).2 := by
  unfold fX6_pulp fX7_pulp
  have z := hI.1
  rcases bask_is (T := 0) h hI x with ⟨a1, a2, a3, a4⟩ | ⟨a1, a2⟩
  · rw [if_pos a1, if_neg (a2 _)]
    rcases tank_is (g := g) t with ⟨b1, b2, b3, b4⟩ | ⟨b1, b2⟩
    · rw [if_pos b1, if_neg b2]
      have hb := hI.2.2.2.1 _ a3
      have htk := hI.2.2.2.2.1 _ b3
      have hh := half_b hb.2.1.1 hb.2.1.2
      rw [h.ba hI a3 (k := 3) (by decide), h.ba hI a3 (k := 1) (by decide)]
      by_cases s3 : m (200 + x.toNatClampNeg) 3 = 0
      · rw [if_pos s3]
        by_cases s1 : m (200 + x.toNatClampNeg) 1 / 2 = 0
        · rw [if_pos s1]
          simp only [if_pos s3, if_pos s1, ite_self]
          exact Ok.no (T := 0) h hI hT (by simp) rfl
        · rw [if_neg s1]
          have hp := ne0_pos hh.1 s1
          rcases takes_is (m := m) h b3 hh.1 (by omega) with ⟨t1, t2, t3⟩ | ⟨t1, t3⟩
          · rw [if_pos t1, if_neg t2]
            rcases t3 with t3 | ⟨t3, t4⟩
            · rw [if_pos t3, if_pos s3, if_neg s1]; exact Ok.no (T := 0) h hI hT (by simp) rfl
            · rw [if_neg t3, if_pos t4, if_pos s3, if_neg s1]; exact Ok.no (T := 0) h hI hT (by simp) rfl
          · rw [if_neg t1]
            have hkk : (m (300 + t.toNatClampNeg) 0).toInt + (m (200 + x.toNatClampNeg) 1 / 2).toInt ≤ 300 := by
              have k0 := htk.1.k0
              rcases t3 with t3 | ⟨t3, t4, t5⟩
              · rw [t3]; have e0 : (0 : Int32).toInt = 0 := rfl; omega
              · have e300 : (300 : Int32).toInt = 300 := rfl
                rw [lt_ti, e300, ti_add (by omega) (by omega)] at t5; omega
            have key : ∀ su : Int32, (su = 0 ↔ m (200 + x.toNatClampNeg) 5 = 0) → Ok na nb nc nd 0 0 ((fX4_addBasket (up g 2 x.toNatClampNeg 3 1) t.toNatClampNeg x.toNatClampNeg (m (200 + x.toNatClampNeg) 1 / 2)) 3 t.toNatClampNeg 0) (up (fX4_addBasket (up g 2 x.toNatClampNeg 3 1) t.toNatClampNeg x.toNatClampNeg (m (200 + x.toNatClampNeg) 1 / 2)) 0 0 5 ((fX4_addBasket (up g 2 x.toNatClampNeg 3 1) t.toNatClampNeg x.toNatClampNeg (m (200 + x.toNatClampNeg) 1 / 2)) 0 0 5 + ((fX4_addBasket (up g 2 x.toNatClampNeg 3 1) t.toNatClampNeg x.toNatClampNeg (m (200 + x.toNatClampNeg) 1 / 2)) 2 x.toNatClampNeg 1 - (m (200 + x.toNatClampNeg) 1 / 2)))) _ _ := fun su hs =>
              pulp_core (su := su) (M1 := fX7_mixOf na nb nc nd 0 (u2 m 0 20 0) (m (200 + x.toNatClampNeg) 0) (m (200 + x.toNatClampNeg) 1 / 2) (m (200 + x.toNatClampNeg) 2) su) h hI hT a3 b3 hp hh.2 hkk hs (v := 0) (v2 := 0) (fun k hk => by rw [mixOf_nr (by omega), u2_nk (by omega)]) (by rw [mixOf_nr (by omega), u2_eq]) (fun r k q1 q2 => by rw [mixOf_nr (by omega), u2_nr (by omega)]) (fun k => mixOf_at (T := 0) k)
            rcases hb.2.2.2 with c5 | c5
            · have k0 := key 0 ⟨fun _ => c5, fun _ => rfl⟩
              have n5 : ¬ m (200 + x.toNatClampNeg) 5 = 1 := by rw [c5]; decide
              rcases t3 with t3 | ⟨t3, t4, t5⟩
              · rw [if_pos t3, if_pos s3, if_neg s1, if_neg n5]; exact k0
              · rw [if_neg t3, if_neg t4, if_neg t5, if_pos s3, if_neg s1, if_neg n5]; exact k0
            · have k0 := key 1 ⟨fun q => absurd q (by decide), fun q => by rw [c5] at q; exact absurd q (by decide)⟩
              rcases t3 with t3 | ⟨t3, t4, t5⟩
              · rw [if_pos t3, if_pos s3, if_neg s1, if_pos c5]; exact k0
              · rw [if_neg t3, if_neg t4, if_neg t5, if_pos s3, if_neg s1, if_pos c5]; exact k0
      · rw [if_neg s3]
        simp only [if_neg s3, ite_self]
        exact Ok.no (T := 0) h hI hT (by simp) rfl
    · rw [if_neg (by rw [b1]; decide), if_pos b2, b1]; exact Ok.no (T := 0) h hI hT (by simp) rfl
  · rw [if_neg (by rw [a1]; decide), if_pos (a2 _), a1]; exact Ok.no (T := 0) h hI hT (by simp) rfl
end MX9
