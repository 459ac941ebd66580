/-! ===== blend ===== -/
section BL
variable {na nb nc nd T : Nat} {g g2 : Gd} {m m2 : Md}
def mxI (a b : Int32) : Int32 := if a < b then b else a
theorem blendOf_at {r o : Nat} (hr : r ≠ 400 + T) (ho : o ≠ 400 + T) : ∀ k, k < 23 → fX7_blendOf na nb nc nd T m r o (400 + T) k = if k = 1 then fX7_mean (m r 0) (m r 1) (m o 0) (m o 1) else if k = 0 ∨ 11 ≤ k then m r k + m o k else if k = 2 then mxI (m r 2) (m o 2) else if k = 7 then mxI (m r 7) (m o 7) else if k = 5 then fX7_mean (m r 0) (m r 5) (m o 0) (m o 5) else if k = 3 then fX7_mean (m r 0) (m r 3) (m o 0) (m o 3) else m r k := by
  intro k hk
  have e : fX7_blendOf na nb nc nd T m r o = fX7_come na nb nc nd (T + 1) (u2 (u2 (u2 (u2 (rz m (400 + T) (fun k => m r k)) (400 + T) 3 (fX7_mean (m r 0) (m r 3) (m o 0) (m o 3))) (400 + T) 5 (fX7_mean (m r 0) (m r 5) (m o 0) (m o 5))) (400 + T) 7 (mxI (m r 7) (m o 7))) (400 + T) 2 (mxI (m r 2) (m o 2))) (400 + T) o := rfl
  have q : ∀ k, (u2 (u2 (u2 (u2 (rz m (400 + T) (fun k => m r k)) (400 + T) 3 (fX7_mean (m r 0) (m r 3) (m o 0) (m o 3))) (400 + T) 5 (fX7_mean (m r 0) (m r 5) (m o 0) (m o 5))) (400 + T) 7 (mxI (m r 7) (m o 7))) (400 + T) 2 (mxI (m r 2) (m o 2))) (400 + T) k = if k = 2 then mxI (m r 2) (m o 2) else if k = 7 then mxI (m r 7) (m o 7) else if k = 5 then fX7_mean (m r 0) (m r 5) (m o 0) (m o 5) else if k = 3 then fX7_mean (m r 0) (m r 3) (m o 0) (m o 3) else m r k := by
    intro k
    by_cases q2 : k = 2
    · subst q2; rw [u2_eq, if_pos rfl]
    · rw [u2_nk q2, if_neg q2]
      by_cases q7 : k = 7
      · subst q7; rw [u2_eq, if_pos rfl]
      · rw [u2_nk q7, if_neg q7]
        by_cases q5 : k = 5
        · subst q5; rw [u2_eq, if_pos rfl]
        · rw [u2_nk q5, if_neg q5]
          by_cases q3 : k = 3
          · subst q3; rw [u2_eq, if_pos rfl]
          · rw [u2_nk q3, if_neg q3, rz_eq]
  have qo : ∀ k, (u2 (u2 (u2 (u2 (rz m (400 + T) (fun k => m r k)) (400 + T) 3 (fX7_mean (m r 0) (m r 3) (m o 0) (m o 3))) (400 + T) 5 (fX7_mean (m r 0) (m r 5) (m o 0) (m o 5))) (400 + T) 7 (mxI (m r 7) (m o 7))) (400 + T) 2 (mxI (m r 2) (m o 2))) o k = m o k := fun k => by
    rw [u2_nr ho, u2_nr ho, u2_nr ho, u2_nr ho, rz_nr ho]
  rw [e, come_at _ _ _ _ _ _ _ _ k hk, q k, q 0, q 1, qo, qo, qo]
  by_cases k1 : k = 1
  · rw [if_pos k1, if_pos k1]; rfl
  · rw [if_neg k1, if_neg k1]
    by_cases kk : k = 0 ∨ 11 ≤ k
    · rw [if_pos kk, if_pos kk, if_neg (by omega), if_neg (by omega), if_neg (by omega), if_neg (by omega)]
    · rw [if_neg kk, if_neg kk]
theorem takeIn_eq {i o r p : Nat} (h1 : ∀ k, k < 23 → cr g (8 + i) k = m r k) (h2 : ∀ k, k < 23 → cr g (8 + o) k = m p k) (hio : i ≠ o) (hr : r ≠ 400 + T) (hp : p ≠ 400 + T) (hk : ¬ m r 0 + m p 0 ≤ 0) : ∀ k, k < 23 → cr (fX3_takeIn g i o) (8 + i) k = fX7_blendOf na nb nc nd T m r p (400 + T) k := by
  intro k hk9
  have a0 : g 3 (8 + i) 0 = m r 0 := h1 0 (by decide)
  have a1 : g 3 (8 + i) 1 = m r 1 := h1 1 (by decide)
  have a2 : g 3 (8 + i) 2 = m r 2 := h1 2 (by decide)
  have a3 : g 3 (8 + i) 3 = m r 3 := h1 3 (by decide)
  have a5 : g 3 (8 + i) 5 = m r 5 := h1 5 (by decide)
  have a7 : g 3 (8 + i) 7 = m r 7 := h1 7 (by decide)
  have b0 : g 3 (8 + o) 0 = m p 0 := h2 0 (by decide)
  have b1 : g 3 (8 + o) 1 = m p 1 := h2 1 (by decide)
  have b2 : g 3 (8 + o) 2 = m p 2 := h2 2 (by decide)
  have b3 : g 3 (8 + o) 3 = m p 3 := h2 3 (by decide)
  have b5 : g 3 (8 + o) 5 = m p 5 := h2 5 (by decide)
  have b7 : g 3 (8 + o) 7 = m p 7 := h2 7 (by decide)
  have e : fX3_takeIn g i o = fX4_addMix (up (up (up (up g 3 (8 + i) 3 (fX7_mean (m r 0) (m r 3) (m p 0) (m p 3))) 3 (8 + i) 5 (fX7_mean (m r 0) (m r 5) (m p 0) (m p 5))) 3 (8 + i) 7 (mxI (m r 7) (m p 7))) 3 (8 + i) 2 (mxI (m r 2) (m p 2))) (8 + i) (8 + o) := by
    unfold fX3_takeIn mxI
    rw [a0, a2, a3, a5, a7, b0, b2, b3, b5, b7, mean_eq hk, mean_eq hk]
  have q : ∀ j k, j = 8 + i ∨ j = 8 + o → cr (up (up (up (up g 3 (8 + i) 3 (fX7_mean (m r 0) (m r 3) (m p 0) (m p 3))) 3 (8 + i) 5 (fX7_mean (m r 0) (m r 5) (m p 0) (m p 5))) 3 (8 + i) 7 (mxI (m r 7) (m p 7))) 3 (8 + i) 2 (mxI (m r 2) (m p 2))) j k = if j = 8 + i ∧ k = 2 then mxI (m r 2) (m p 2) else if j = 8 + i ∧ k = 7 then mxI (m r 7) (m p 7) else if j = 8 + i ∧ k = 5 then fX7_mean (m r 0) (m r 5) (m p 0) (m p 5) else if j = 8 + i ∧ k = 3 then fX7_mean (m r 0) (m r 3) (m p 0) (m p 3) else cr g j k := fun j k _ => by
    rw [cr_up3 (by decide), cr_up3 (by decide), cr_up3 (by decide), cr_up3 (by decide)]
  have i0 := q (8 + i) 0 (Or.inl rfl)
  have i1 := q (8 + i) 1 (Or.inl rfl)
  have o0 := q (8 + o) 0 (Or.inr rfl)
  have o1 := q (8 + o) 1 (Or.inr rfl)
  rw [if_neg (by omega), if_neg (by omega), if_neg (by omega), if_neg (by omega), cr_3 (by decide), cr_3 (by decide), a0] at i0
  rw [if_neg (by omega), if_neg (by omega), if_neg (by omega), if_neg (by omega), cr_3 (by decide), cr_3 (by decide), a1] at i1
  rw [if_neg (by omega), if_neg (by omega), if_neg (by omega), if_neg (by omega), cr_3 (by decide), cr_3 (by decide), b0] at o0
  rw [if_neg (by omega), if_neg (by omega), if_neg (by omega), if_neg (by omega), cr_3 (by decide), cr_3 (by decide), b1] at o1
  have oq := q (8 + o) k (Or.inr rfl)
  rw [if_neg (by omega), if_neg (by omega), if_neg (by omega), if_neg (by omega), h2 k hk9] at oq
  have iq := q (8 + i) k (Or.inl rfl)
  simp only [true_and] at iq
  rw [e, addMix_cr _ _ _ k hk9, i0, i1, o0, o1, oq, iq, h1 k hk9, blendOf_at hr hp k hk9, mean_eq hk]
  by_cases k1 : k = 1
  · rw [if_pos k1, if_pos k1]
  · rw [if_neg k1, if_neg k1]
    by_cases kk : k = 0 ∨ 11 ≤ k
    · rw [if_pos kk, if_pos kk, if_neg (by omega), if_neg (by omega), if_neg (by omega), if_neg (by omega)]
    · rw [if_neg kk, if_neg kk]
theorem takeIn_o (g : Gd) (i o : Nat) : only3 g (fX3_takeIn g i o) (8 + i) := by
  unfold fX3_takeIn
  exact ((((only3.rf.upd (by decide) (by decide)).upd (by decide) (by decide)).upd (by decide) (by decide)).upd (by decide) (by decide)).trans9 (addMix_o _ _ _)
theorem forgetC_o {i t i2 k : Nat} (h : t ≠ 6) : fX3_forgetReadings g i t i2 k = g t i2 k := by
  unfold fX3_forgetReadings
  rw [up_nt h, up_nt h, up_nt h]
theorem mean_b2 {k v k2 v2 : Int32} {M : Int} (hk0 : 0 ≤ k.toInt) (hk : k.toInt ≤ 1800) (hk20 : 0 ≤ k2.toInt) (hk2 : k2.toInt ≤ 1800) (hp : 0 < k.toInt + k2.toInt) (hv0 : 0 ≤ v.toInt) (hv : v.toInt ≤ M) (hv20 : 0 ≤ v2.toInt) (hv2 : v2.toInt ≤ M) (hM : M ≤ 300000) : 0 ≤ (fX7_mean k v k2 v2).toInt ∧ (fX7_mean k v k2 v2).toInt ≤ M := mean_b hk0 (by omega) hk20 (by omega) hp hv0 hv hv20 hv2 hM
theorem mxI_b {a b : Int32} {M : Int} (h1 : 0 ≤ a.toInt ∧ a.toInt ≤ M) (h2 : 0 ≤ b.toInt ∧ b.toInt ≤ M) : 0 ≤ (mxI a b).toInt ∧ (mxI a b).toInt ≤ M := by
  unfold mxI
  split
  · exact h2
  · exact h1
/-- a blend keeps a lot's conditions -/
theorem blend_I {i o : Nat} {M : Md} {r2 : Nat} (h1 : lotI m i) (h2 : lotI m o) (hsum : (m (308 + i) 0).toInt + (m (308 + o) 0).toInt ≤ 1800) (hp : 0 < (m (308 + i) 0).toInt + (m (308 + o) 0).toInt) (hr1 : 308 + i ≠ 400 + T) (hr2 : 308 + o ≠ 400 + T) (hh0 : (m 0 0).toInt ≤ 20000) (hM : ∀ k, k < 23 → M r2 k = fX7_blendOf na nb nc nd T m (308 + i) (308 + o) (400 + T) k) : mixI M r2 1800 ∧ (0 ≤ (M r2 3).toInt ∧ (M r2 3).toInt ≤ 13 * (m 0 0).toInt) ∧ M r2 4 = m (308 + i) 4 ∧ (0 ≤ (M r2 5).toInt ∧ (M r2 5).toInt ≤ 600) ∧ (0 ≤ (M r2 7).toInt ∧ (M r2 7).toInt ≤ (m 0 0).toInt) ∧ (0 ≤ (M r2 2).toInt ∧ (M r2 2).toInt ≤ (m 0 0).toInt) ∧ M r2 10 = m (308 + i) 10 ∧ M r2 0 = m (308 + i) 0 + m (308 + o) 0 := by
  obtain ⟨a1, a2, a3, a4, a5, a6, a7⟩ := h1
  obtain ⟨b1, b2, b3, b4, b5, b6, b7⟩ := h2
  have k1 := a1.k0
  have k2 := b1.k0
  have at_ : ∀ k, k < 23 → M r2 k = _ := fun k hk => (hM k hk).trans (blendOf_at hr1 hr2 k hk)
  have h4 := at_ 4 (by decide)
  have h10 := at_ 10 (by decide)
  refine ⟨?_, ?_, h4, ?_, ?_, ?_, h10, at_ 0 (by decide)⟩
  · have q : mixI (fun r k => if r = 308 + i then fX7_come na nb nc nd T m (308 + i) (308 + o) (308 + i) k else m r k) (308 + i) 1800 :=
      come_I (m := m) (a := na) (b := nb) (c := nc) (d := nd) (t := T) (o := 308 + o) (K1 := 1800) (K2 := 1800) (fun k hk _ => if_pos rfl) a1 b1 (by decide) (by decide) hp hsum
    refine q.cg2 (fun k hk hk2 => ?_)
    rw [at_ k hk, if_pos rfl, come_at _ _ _ _ _ _ _ _ k hk]
    rcases hk2 with rfl | rfl | hk2
    · rfl
    · rfl
    · rw [if_neg (by omega), if_pos (by omega), if_neg (by omega), if_pos (by omega)]
  · rw [at_ 3 (by decide)]
    exact mean_b2 k1.1 k1.2 k2.1 k2.2 hp a2.1 a2.2 b2.1 b2.2 (by omega)
  · rw [at_ 5 (by decide)]
    exact mean_b2 k1.1 k1.2 k2.1 k2.2 hp a4.1 a4.2.1 b4.1 b4.2.1 (by decide)
  · rw [at_ 7 (by decide)]
    exact mxI_b a4.2.2 b4.2.2
  · rw [at_ 2 (by decide)]
    exact mxI_b a5 b5
theorem sumF_two {f : Nat → Int} {n x y : Nat} (h : ∀ i, i < n → 0 ≤ f i) (hx : x < n) (hy : y < n) (hne : x ≠ y) : f x + f y ≤ sumF f n := by
  have h2 := sumF_set (f := f) (f2 := fun i => if i = x then f x + f y else if i = y then 0 else f i) (x := y)
  have q1 := sumF_set (f := f) (f2 := fun i => if i = y then 0 else f i) n hy (fun i _ hn => if_neg hn)
  have q2 := sumF_le (f := fun i => if i = y then 0 else f i) n (fun i hi => by
    show 0 ≤ if i = y then 0 else f i
    split
    · exact Int.le_refl _
    · exact h i hi) x hx
  rw [if_pos rfl] at q1
  have q3 : (if x = y then (0 : Int) else f x) = f x := if_neg hne
  have q2 : (if x = y then (0 : Int) else f x) ≤ sumF (fun i => if i = y then 0 else f i) n := q2
  omega
theorem sumF_move {f f2 : Nat → Int} {n x y : Nat} (hx : x < n) (hy : y < n) (hne : x ≠ y) (e : ∀ i, i < n → i ≠ x → i ≠ y → f2 i = f i) (ex : f2 x = f x + f y) (ey : f2 y = 0) : sumF f2 n = sumF f n := by
  have q1 := sumF_set (f := f) (f2 := fun i => if i = y then f2 y else f i) n hy (fun i _ hn => if_neg hn)
  have q2 := sumF_set (f := fun i => if i = y then f2 y else f i) (f2 := f2) n hx (fun i hi hn => by
    show f2 i = if i = y then f2 y else f i
    by_cases z : i = y
    · rw [if_pos z, z]
    · rw [if_neg z]; exact e i hi hn z)
  rw [if_pos rfl] at q1
  rw [if_neg hne] at q2
  omega
end BL
