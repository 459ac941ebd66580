/-! ===== wash and whole ===== -/
section WS
variable {na nb nc nd T : Nat} {g g2 : Gd} {m m2 : Md}
theorem begin_cr {i : Nat} {x y z : Int32} : ∀ k, cr (fX1_begin g i x y z) (3 + i) k = if k = 7 then 0 else if k = 6 then 0 else if k = 3 then z else if k = 5 then y else if k = 4 then x else cr g (3 + i) k := by
  intro k
  unfold fX1_begin
  rw [cr_up3 (by decide), cr_up3 (by decide), cr_up3 (by decide), cr_up3 (by decide), cr_up3 (by decide)]
  simp only [true_and]
theorem begin_o (g : Gd) (i : Nat) (x y z : Int32) : only3 g (fX1_begin g i x y z) (3 + i) := by
  unfold fX1_begin
  repeat (first | exact only3.rf | refine only3.upd ?_ (by decide) (by decide))
theorem lay_at {a b c d t : Nat} {r o : Nat} {me mo : Int32} (ho : o ≠ r) : ∀ k, fX7_lay a b c d t m r o me mo r k = if k = 5 then mo else if k = 4 then me else if k = 3 then m o 3 else fX7_come a b c d t m r o r k := by
  intro k
  unfold fX7_lay
  by_cases k5 : k = 5
  · subst k5; rw [u2_eq, if_pos rfl]
  · rw [u2_nk k5, if_neg k5]
    by_cases k4 : k = 4
    · subst k4; rw [u2_eq, if_pos rfl]
    · rw [u2_nk k4, if_neg k4]
      by_cases k3 : k = 3
      · subst k3; rw [u2_eq, if_pos rfl, come_nr ho]
      · rw [u2_nk k3, if_neg k3]
theorem lay_nr {a b c d t : Nat} {r o r2 k : Nat} {me mo : Int32} (h : r2 ≠ r) : fX7_lay a b c d t m r o me mo r2 k = m r2 k := by
  unfold fX7_lay
  rw [u2_nr h, u2_nr h, u2_nr h, come_nr h]
theorem only3.upo {a b : Gd} {j t i k : Nat} {v : Int32} (h : only3 a b j) : only3 (up a t i k v) (up b t i k v) j := by
  intro t2 i2 k2 q
  by_cases e : t2 = t ∧ i2 = i ∧ k2 = k
  · obtain ⟨rfl, rfl, rfl⟩ := e; rw [up_eq, up_eq]
  · rw [up_ne e, up_ne e]; exact h _ _ _ q
/-- a bed that has been laid -/
theorem lay_I {a b c d t : Nat} {i o : Nat} {me mo : Int32} {M : Md} (hb : bedI m i) (ho : o ≠ 303 + i) (hmix : mixI m o 300) (h0 : m (303 + i) 0 = 0) (hp : 0 < (m o 0).toInt) (hpt : ptI m o) (hme : me = 0 ∨ me = 1 ∨ me = 2) (hmo : 0 ≤ mo.toInt ∧ mo.toInt ≤ 600) (hM : ∀ k, k < 23 → M (303 + i) k = fX7_lay a b c d t m (303 + i) o me mo (303 + i) k) (hh : M 0 0 = m 0 0) (hh0 : 0 ≤ (m 0 0).toInt) : bedI M i := by
  obtain ⟨c1, c2, c3, c4, c5, c6, c7, c8, c9⟩ := hb
  have e0 : (0 : Int32).toInt = 0 := rfl
  have q : ∀ k, k < 23 → k ≠ 3 → k ≠ 4 → k ≠ 5 → M (303 + i) k = fX7_come a b c d t m (303 + i) o (303 + i) k := fun k hk h3 h4 h5 => by
    rw [hM k hk, lay_at ho, if_neg h5, if_neg h4, if_neg h3]
  have q2 : ∀ k, k < 11 → k ≠ 0 → k ≠ 1 → k ≠ 3 → k ≠ 4 → k ≠ 5 → M (303 + i) k = m (303 + i) k := fun k hk h0 h1 h3 h4 h5 => by
    rw [q k (by omega) h3 h4 h5, come_o hk h0 h1]
  have k0 := hmix.k0
  have z := c7 h0
  refine ⟨?_, ?_, ?_, ?_, ?_, ?_, fun _ => ⟨?_, ?_⟩, ?_, ?_⟩
  · exact come_I (m := m) (o := o) (K1 := 300) (K2 := 300) (fun k hk h => q k hk (by omega) (by omega) (by omega)) c1 hmix (by decide) (by decide) (by rw [h0, e0]; omega) (by rw [h0, e0]; omega)
  · refine hpt.cg ?_ (by rw [hh]; exact Int.le_refl _)
    rw [hM 3 (by decide), lay_at ho]; rfl
  · unfold mtI
    rw [hM 4 (by decide), lay_at ho]; exact hme
  · unfold moI
    rw [hM 5 (by decide), lay_at ho, if_pos rfl, q2 7 (by decide) (by decide) (by decide) (by decide) (by decide) (by decide), z.2, hh, e0]
    omega
  · rw [q2 8 (by decide) (by decide) (by decide) (by decide) (by decide) (by decide)]; exact c5
  · rw [q2 9 (by decide) (by decide) (by decide) (by decide) (by decide) (by decide)]; exact c6
  · rw [q2 6 (by decide) (by decide) (by decide) (by decide) (by decide) (by decide)]; exact z.1
  · rw [q2 7 (by decide) (by decide) (by decide) (by decide) (by decide) (by decide)]; exact z.2
  · rw [q2 2 (by decide) (by decide) (by decide) (by decide) (by decide) (by decide)]; exact c8
  · rw [q2 10 (by decide) (by decide) (by decide) (by decide) (by decide) (by decide)]; exact c9
theorem emptyT_cr {i : Nat} : ∀ k, k < 23 → cr (fX5_empty g i) i k = if k = 3 then 0 else if k = 2 then 0 else if k = 1 ∨ k = 0 ∨ 11 ≤ k then 0 else cr g i k := by
  intro k hk
  unfold fX5_empty
  rw [cr_up3 (by decide), cr_up3 (by decide), clear_cr g i k hk]
  simp only [true_and]
theorem emptyT_o (g : Gd) (i : Nat) : only3 g (fX5_empty g i) i := by
  unfold fX5_empty
  exact ((clear_o g i).upd (by decide) (by decide)).upd (by decide) (by decide)
theorem takesB_is (h : Rl na nb nc nd g m) (hI : Iv na nb nc nd m) {i : Nat} (hi : i < nc) {m9 : Md} (e : ∀ k, m9 (303 + i) k = m (303 + i) k) {x : Int32} : (fX1_takes g i x = 0 ∧ fX7_isRoom na nb nc nd T m9 (303 + i) x = 0) ∨ (¬ fX1_takes g i x = 0 ∧ ¬ fX7_isRoom na nb nc nd T m9 (303 + i) x = 0 ∧ m (303 + i) 0 = 0) := by
  unfold fX1_takes fX7_isRoom
  rw [h.b3 hI hi (by decide), h.b3 hI hi (by decide), e, e]
  rcases empty_is (x := m (303 + i) 0) with ⟨b1, b2⟩ | ⟨b1, b2⟩
  · rw [if_pos b1, if_neg b2]; exact Or.inl ⟨rfl, rfl⟩
  · rw [if_neg (by rw [b1]; decide), if_pos b2]
    by_cases q : 12 * m (303 + i) 8 < x
    · rw [if_pos q]; exact Or.inl ⟨rfl, rfl⟩
    · rw [if_neg q]; exact Or.inr ⟨by decide, by decide, b2⟩
theorem layT_row (h : Rl na nb nc nd g m) (hI : Iv na nb nc nd m) {b t : Nat} {me mo : Int32} (hb : b < nc) (ht : t < 3) (hk : ¬ m (303 + b) 0 + m (300 + t) 0 ≤ 0) (h67 : m (303 + b) 6 = 0 ∧ m (303 + b) 7 = 0) : ∀ k, k < 23 → cr (fX4_addMix (fX1_begin g b me mo (m (300 + t) 3)) (3 + b) t) (3 + b) k = fX7_lay na nb nc nd T (u2 m 0 20 0) (303 + b) (300 + t) me mo (303 + b) k := by
  intro k hk9
  have z := hI.1
  have eb : ∀ k, k < 23 → cr g (3 + b) k = m (303 + b) k := fun k hk => h.br hI hb hk
  have et : ∀ k, k < 23 → cr (fX1_begin g b me mo (m (300 + t) 3)) t k = m (300 + t) k := fun k hk => by rw [(begin_o g b me mo (m (300 + t) 3)).row (by omega)]; exact h.tr ht hk
  have r0 : (fX1_begin g b me mo (m (300 + t) 3)) 3 (3 + b) 0 = m (303 + b) 0 := by
    have := begin_cr (g := g) (i := b) (x := me) (y := mo) (z := m (300 + t) 3) 0
    rw [eb 0 (by decide)] at this; exact this
  have r1 : (fX1_begin g b me mo (m (300 + t) 3)) 3 (3 + b) 1 = m (303 + b) 1 := by
    have := begin_cr (g := g) (i := b) (x := me) (y := mo) (z := m (300 + t) 3) 1
    rw [eb 1 (by decide)] at this; exact this
  have t0 : (fX1_begin g b me mo (m (300 + t) 3)) 3 t 0 = m (300 + t) 0 := et 0 (by decide)
  have t1 : (fX1_begin g b me mo (m (300 + t) 3)) 3 t 1 = m (300 + t) 1 := et 1 (by decide)
  have u : ∀ r k, r ≠ 0 → u2 m 0 20 0 r k = m r k := fun r k h => u2_nr h
  rw [addMix_cr _ _ _ k hk9, lay_at (by omega), come_at _ _ _ _ _ _ _ _ k hk9, begin_cr, et k hk9, eb k hk9, r0, r1, t0, t1, u _ _ (by omega), u _ _ (by omega), u _ _ (by omega), u _ _ (by omega), u _ _ (by omega), u _ _ (by omega), u _ _ (by omega)]
  by_cases k1 : k = 1
  · subst k1; simp only [if_true]; rw [mean_eq hk]; rfl
  · rw [if_neg k1]
    by_cases kk : k = 0 ∨ 11 ≤ k
    · rw [if_pos kk, if_neg (by omega), if_neg (by omega), if_neg (by omega), if_neg (by omega), if_neg (by omega), if_neg (by omega), if_neg (by omega), if_neg (by omega), if_neg k1, if_pos kk]
    · rw [if_neg kk]
      by_cases k7 : k = 7
      · subst k7; simp only [if_true]; exact h67.2.symm
      · rw [if_neg k7]
        by_cases k6 : k = 6
        · subst k6; simp only [if_true]; exact h67.1.symm
        · rw [if_neg k6]
          by_cases k5 : k = 5
          · subst k5; rfl
          · rw [if_neg k5, if_neg k5]
            by_cases k4 : k = 4
            · subst k4; rfl
            · rw [if_neg k4, if_neg k4]
              by_cases k3 : k = 3
              · subst k3; rfl
              · rw [if_neg k3, if_neg k3, if_neg k1, if_neg kk]
theorem emptyT_I {i : Nat} {M : Md} (hM : ∀ k, k < 23 → k ≠ 8 → k ≠ 9 → M (300 + i) k = 0) (h0 : 0 ≤ (M 0 0).toInt) : tankI M i := by
  have e0 : (0 : Int32).toInt = 0 := rfl
  have z : ∀ k, k < 23 → k ≠ 8 → k ≠ 9 → (M (300 + i) k).toInt = 0 := fun k hk a b => by rw [hM k hk a b]; exact e0
  refine ⟨⟨fun f hf => ?_, ?_, ?_, ?_, ?_⟩, ?_, hM 4 (by decide) (by decide) (by decide), hM 5 (by decide) (by decide) (by decide), hM 6 (by decide) (by decide) (by decide), hM 7 (by decide) (by decide) (by decide), hM 10 (by decide) (by decide) (by decide)⟩
  · rw [z _ (by omega) (by omega) (by omega), z _ (by omega) (by omega) (by omega)]; decide
  · rw [z 0 (by decide) (by decide) (by decide), z 11 (by decide) (by decide) (by decide), z 12 (by decide) (by decide) (by decide), z 13 (by decide) (by decide) (by decide), z 14 (by decide) (by decide) (by decide), z 15 (by decide) (by decide) (by decide), z 16 (by decide) (by decide) (by decide)]; decide
  · rw [z 0 (by decide) (by decide) (by decide)]; decide
  · rw [z 1 (by decide) (by decide) (by decide)]; decide
  · rw [z 1 (by decide) (by decide) (by decide)]; decide
  · unfold ptI
    rw [z 3 (by decide) (by decide) (by decide)]; omega
theorem wash_core (h : Rl na nb nc nd g m) (hI : Iv na nb nc nd m) (hT : Tr g) {b t : Nat} {me mo : Int32} (hb : b < nc) (ht : t < 3) (hp : 0 < (m (300 + t) 0).toInt) (hb0 : m (303 + b) 0 = 0) (hme : me = 0 ∨ me = 1) (hmo : 0 ≤ mo.toInt ∧ mo.toInt ≤ 600) {G2 : Gd} {wv : Int32} {v : Int32}
    (hG : (G2 = up (fX5_empty (fX4_addMix (fX1_begin g b me mo (m (300 + t) 3)) (3 + b) t) t) 0 0 6 wv) ∨ (G2 = fX5_empty (fX4_addMix (fX1_begin g b me mo (m (300 + t) 3)) (3 + b) t) t ∧ wv = m 0 6)) :
    Ok na nb nc nd 0 0 v G2 v (fX7_empty na nb nc nd T (u2 (fX7_lay na nb nc nd T (u2 m 0 20 0) (303 + b) (300 + t) me mo) 0 6 wv) (300 + t)) := by
  obtain ⟨z, zh, i1, i2, i3, i4, i5, i6⟩ := id hI
  have bI := i4 b hb
  have tI := i3 t ht
  have e0 : (0 : Int32).toInt = 0 := rfl
  have kt := tI.1.k0
  have hk : ¬ m (303 + b) 0 + m (300 + t) 0 ≤ 0 := pos_le (by rw [hb0, e0]; omega) (by rw [hb0, e0]; omega)
  have hrow := layT_row (T := T) (me := me) (mo := mo) h hI hb ht hk (bI.2.2.2.2.2.2.1 hb0)
  generalize hL6 : fX4_addMix (fX1_begin g b me mo (m (300 + t) 3)) (3 + b) t = L6 at hG hrow
  have oL : only3 g L6 (3 + b) := by rw [← hL6]; exact (begin_o _ _ _ _ _).trans9 (addMix_o _ _ _)
  generalize hLa : fX7_lay na nb nc nd T (u2 m 0 20 0) (303 + b) (300 + t) me mo = La at hrow
  have eLa : ∀ r k, r ≠ 303 + b → La r k = u2 m 0 20 0 r k := fun r k q => by rw [← hLa]; exact lay_nr q
  have hRL : Rl na nb nc nd L6 La := (h.th (v := 0)).row (j := 3 + b) (by omega) oL (fun i q _ => by omega) (fun i q => by omega) (fun k hk9 => by rw [hrow k hk9, show 300 + (3 + b) = 303 + b by omega]) (fun r k q _ => eLa r k (by omega))
  have w : ∀ r k, r ≠ 300 + t → fX7_empty na nb nc nd T (u2 La 0 6 wv) (300 + t) r k = u2 La 0 6 wv r k := fun r k q => empty_nr q
  have wt : ∀ k, k < 23 → fX7_empty na nb nc nd T (u2 La 0 6 wv) (300 + t) (300 + t) k = if k = 8 ∨ k = 9 then m (300 + t) k else 0 := fun k hk9 => by
    rw [empty_at na nb nc nd T _ _ k hk9, u2_nr (by omega), eLa _ _ (by omega), u2_nr (by omega)]
  have trow : ∀ k, k < 23 → cr (fX5_empty L6 t) t k = fX7_empty na nb nc nd T (u2 La 0 6 wv) (300 + t) (300 + t) k := fun k hk9 => by
    rw [emptyT_cr k hk9, wt k hk9, oL.row (by omega), h.tr ht hk9]
    by_cases q1 : k = 3
    · rw [if_pos q1, if_neg (by omega)]
    · rw [if_neg q1]
      by_cases q2 : k = 2
      · rw [if_pos q2, if_neg (by omega)]
      · rw [if_neg q2]
        by_cases q3 : k = 1 ∨ k = 0 ∨ 11 ≤ k
        · rw [if_pos q3, if_neg (by omega)]
        · rw [if_neg q3]
          by_cases q4 : k = 8 ∨ k = 9
          · rw [if_pos q4]
          · rw [if_neg q4]
            obtain ⟨_, _, t4, t5, t6, t7, t10⟩ := tI
            rcases (show k = 4 ∨ k = 5 ∨ k = 6 ∨ k = 7 ∨ k = 10 by omega) with rfl | rfl | rfl | rfl | rfl
            · exact t4
            · exact t5
            · exact t6
            · exact t7
            · exact t10
  have hR2 : Rl na nb nc nd G2 (fX7_empty na nb nc nd T (u2 La 0 6 wv) (300 + t)) := by
    rcases hG with rfl | ⟨rfl, rfl⟩
    · refine (hRL.u0 (k := 6) (v := wv) (by decide)).row (j := t) (by omega) (emptyT_o L6 t).upo (fun i q _ => by omega) (fun i q => by omega) (fun k hk9 => ?_) (fun r k q _ => w r k q)
      rw [cr_nt (by decide)]; exact trow k hk9
    · have hR3 : Rl na nb nc nd L6 (u2 La 0 6 (m 0 6)) := hRL.cg (fun k hk9 => by
        by_cases q : k = 6
        · subst q; rw [u2_eq, eLa _ _ (by omega), u2_nk (by decide)]
        · rw [u2_nk q]) (fun r k q1 _ => u2_nr (by omega))
      exact hR3.row (j := t) (by omega) (emptyT_o L6 t) (fun i q _ => by omega) (fun i q => by omega) trow (fun r k q _ => w r k q)
  have hh : fX7_empty na nb nc nd T (u2 La 0 6 wv) (300 + t) 0 0 = m 0 0 := by rw [w _ _ (by omega), u2_nk (by decide), eLa _ _ (by omega), u2_nk (by decide)]
  have wm : ∀ r k, 100 ≤ r → r ≠ 300 + t → r ≠ 303 + b → fX7_empty na nb nc nd T (u2 La 0 6 wv) (300 + t) r k = m r k := fun r k q1 q2 q3 => by
    rw [w r k q2, u2_nr (by omega), eLa r k q3, u2_nr (by omega)]
  refine ⟨?_, fun _ => rfl, hR2, ?_, ?_⟩
  · rw [w _ _ (by omega), u2_nk (by decide), eLa _ _ (by omega), u2_eq]
  · refine hI.of ⟨by rw [hh]; exact Int.le_refl _, by rw [hh]; exact zh.2⟩ (fun i hi => wm _ _ (by omega) (by omega) (by omega)) (fun i hi k _ => wm _ _ (by omega) (by omega) (by omega)) (fun i hi => ?_) (fun i hi => ?_) (fun i hi => Or.inl (fun k _ => wm _ _ (by omega) (by omega) (by omega))) (sumK_same hI (fun i hi => wm _ _ (by omega) (by omega) (by omega)))
    · by_cases q : i = t
      · subst q
        exact Or.inr (emptyT_I (fun k hk9 k8 k9 => by rw [wt k hk9, if_neg (by omega)]) (by rw [hh]; exact zh.1))
      · exact Or.inl (fun k _ => wm _ _ (by omega) (by omega) (by omega))
    · by_cases q : i = b
      · subst q
        refine Or.inr (lay_I (a := na) (b := nb) (c := nc) (d := nd) (t := T) (m := u2 m 0 20 0) (o := 300 + t) (me := me) (mo := mo) ((hI.th (v := 0)).2.2.2.2.2.1 i hi) (by omega) (((hI.th (v := 0)).2.2.2.2.1 t ht).1) (by rw [u2_nr (by omega)]; exact hb0) (by rw [u2_nr (by omega)]; exact hp) (((hI.th (v := 0)).2.2.2.2.1 t ht).2.1) (hme.elim Or.inl (fun q => Or.inr (Or.inl q))) hmo (fun k hk9 => ?_) (by rw [hh, u2_nk (by decide)]) (by rw [u2_nk (by decide)]; exact zh.1))
        rw [w _ _ (by omega), u2_nr (by omega), hLa]
      · exact Or.inl (fun k _ => wm _ _ (by omega) (by omega) (by omega))
  · have oT : Tr L6 := by unfold Tr; rw [oL 3 20 0 (by omega)]; exact hT
    have oT2 : Tr (fX5_empty L6 t) := by unfold Tr; rw [emptyT_o L6 t 3 20 0 (by omega)]; exact oT
    rcases hG with rfl | ⟨rfl, -⟩
    · exact oT2.up (by omega)
    · exact oT2
theorem P_wash (h : Rl na nb nc nd g m) (hI : Iv na nb nc nd m) (hT : Tr g) (x b ho : Int32) : Ok na nb nc nd (k13 (fX6_wash g x b ho).1) (fX6_wash g x b ho).1 (fX6_wash g x b ho).2.1 (fX6_wash g x b ho).2.2 (fX7_wash na nb nc nd T m x b ho).1 (fX7_wash na nb nc nd T m x b ho).2 := by
  unfold fX6_wash fX7_wash
  have z := hI.1
  rcases tank_is (g := g) x with ⟨a1, a2, a3, a4⟩ | ⟨a1, a2⟩
  · rw [if_pos a1, if_neg a2]
    rcases bed_is (T := T) h hI b with ⟨b1, b2, b3, b4⟩ | ⟨b1, b2⟩
    · rw [if_pos b1, if_neg (b2 _), h.t3 a3 (k := 0) (by decide), h.t3 a3 (k := 3) (by decide)]
      have tI := hI.2.2.2.2.1 _ a3
      rcases empty_is (x := m (300 + x.toNatClampNeg) 0) with ⟨c1, c2⟩ | ⟨c1, c2⟩
      · rw [if_pos c1, if_neg c2]
        have hp := ne0_pos tI.1.k0.1 c2
        rcases takesB_is (T := T) h hI b3 (m9 := u2 m 0 20 0) (fun k => u2_nr (by omega)) (x := m (300 + x.toNatClampNeg) 0) with ⟨d1, d2⟩ | ⟨d1, d2, d3⟩
        · rw [if_pos d1, if_pos d2]; exact Ok.no (T := T) h hI hT (by simp) rfl
        · rw [if_neg d1, if_neg d2]
          by_cases q : ho = 0
          · rw [if_pos q, if_pos q]
            have e6 : (fX5_empty (fX4_addMix (fX1_begin g b.toNatClampNeg 0 550 (m (300 + x.toNatClampNeg) 3)) (3 + b.toNatClampNeg) x.toNatClampNeg) x.toNatClampNeg) 0 0 6 = m 0 6 := by
              rw [emptyT_o _ _ 0 0 6 (by omega), addMix_o _ _ _ 0 0 6 (by omega), begin_o _ _ _ _ _ 0 0 6 (by omega)]
              exact h.s (by decide)
            have f6 : (fX7_lay na nb nc nd T (u2 m 0 20 0) (303 + b.toNatClampNeg) (300 + x.toNatClampNeg) 0 550) 0 6 = m 0 6 := by rw [lay_nr (by omega), u2_nk (by decide)]
            rw [e6, f6]
            exact wash_core h hI hT b3 a3 hp d3 (Or.inl rfl) (by decide) (Or.inl rfl)
          · rw [if_neg q, if_neg q]
            by_cases r : m (300 + x.toNatClampNeg) 3 < 30
            · rw [if_pos r, if_pos r]
              have f6 : (fX7_lay na nb nc nd T (u2 m 0 20 0) (303 + b.toNatClampNeg) (300 + x.toNatClampNeg) 1 570) 0 6 + 0 = m 0 6 := by rw [lay_nr (by omega), u2_nk (by decide), Int32.add_zero]
              rw [f6]
              exact wash_core h hI hT b3 a3 hp d3 (Or.inr rfl) (by decide) (Or.inr ⟨rfl, rfl⟩)
            · rw [if_neg r, if_neg r]; exact Ok.no (T := T) h hI hT (by simp) rfl
      · rw [if_neg (by rw [c1]; decide), if_pos c2]; exact Ok.no (T := T) h hI hT (by simp) rfl
    · rw [if_neg (by rw [b1]; decide), if_pos (b2 _), b1]; exact Ok.no (T := T) h hI hT (by simp) rfl
  · rw [if_neg (by rw [a1]; decide), if_pos a2, a1]; exact Ok.no (T := T) h hI hT (by simp) rfl
theorem whole_core (h : Rl na nb nc nd g m) (hI : Iv na nb nc nd m) (hT : Tr g) {x b : Nat} {sm su v2 : Int32} {M1 : Md} (hx : x < nb) (hb : b < nc) (h0 : 0 < sm.toInt) (h1 : sm.toInt ≤ 200) (hb0 : m (303 + b) 0 = 0) (hv : v2 = sm) (hs : su = 0 ↔ m (200 + x) 5 = 0) (e0 : ∀ k, k < 7 → M1 0 k = m 0 k) (e20 : M1 0 20 = 0) (e : ∀ r k, 100 ≤ r → r < 400 → M1 r k = m r k) (ho : ∀ k, M1 (400 + 0) k = if k = 17 + (m (200 + x) 0).toNatClampNeg then (if su = 0 then 0 else sm) else if k = 11 + (m (200 + x) 0).toNatClampNeg then sm else if k = 1 then m (200 + x) 2 else if k = 0 then sm else 0) :
    Ok na nb nc nd 0 0 ((fX4_addBasket (fX1_begin (up g 2 x 3 2) b 2 600 0) (3 + b) x sm) 3 (3 + b) 0) (fX4_addBasket (fX1_begin (up g 2 x 3 2) b 2 600 0) (3 + b) x sm) v2 (u2 (fX7_lay na nb nc nd (0 + 1) M1 (303 + b) (400 + 0) 2 600) (200 + x) 3 2) := by
  obtain ⟨z, zh, i1, i2, i3, i4, i5, i6⟩ := id hI
  have hbk := i2 x hx
  have bI := i4 b hb
  have z0 : (0 : Int32).toInt = 0 := rfl
  have hf : (m (200 + x) 0).toNatClampNeg < 6 := by
    have c := clamp_ti hbk.1.1
    have c2 := hbk.1.2
    omega
  have hR1 : Rl na nb nc nd g M1 := h.cg e0 e
  have hR2 := hR1.u2b (i := x) (k := 3) (v := 2) hx z.2.1 (by decide)
  have b0 : (up g 2 x 3 2) 2 x 0 = m (200 + x) 0 := by rw [up_nk (by decide)]; exact h.ba hI hx (by decide)
  have b2 : (up g 2 x 3 2) 2 x 2 = m (200 + x) 2 := by rw [up_nk (by decide)]; exact h.ba hI hx (by decide)
  have b5 : (up g 2 x 3 2) 2 x 5 = m (200 + x) 5 := by rw [up_nk (by decide)]; exact h.ba hI hx (by decide)
  have bo := begin_o (up g 2 x 3 2) b 2 600 0
  have c0 : (fX1_begin (up g 2 x 3 2) b 2 600 0) 2 x 0 = m (200 + x) 0 := (bo 2 x 0 (by omega)).trans b0
  have c2 : (fX1_begin (up g 2 x 3 2) b 2 600 0) 2 x 2 = m (200 + x) 2 := (bo 2 x 2 (by omega)).trans b2
  have c5 : (fX1_begin (up g 2 x 3 2) b 2 600 0) 2 x 5 = m (200 + x) 5 := (bo 2 x 5 (by omega)).trans b5
  have hbase : ∀ k, k < 23 → cr (up g 2 x 3 2) (3 + b) k = M1 (303 + b) k := fun k hk9 => by rw [cr_nt (by decide), h.br hI hb hk9, e _ _ (by omega) (by omega)]
  have hk2 : ¬ M1 (303 + b) 0 + sm ≤ 0 := by
    rw [e _ _ (by omega) (by omega), hb0]
    exact pos_le (by rw [z0]; omega) (by rw [z0]; omega)
  have hbe := basket_eq (T := 0) (a := na) (b := nb) (c := nc) (d := nd) (t' := 0 + 1) (su := su) (sm := sm) (bk := x) hbase (by rw [b0]; exact hf) (by rw [b0, b2]; exact ho) (by rw [b5]; exact hs) hk2
  have g0 : (fX1_begin (up g 2 x 3 2) b 2 600 0) 3 (3 + b) 0 = (up g 2 x 3 2) 3 (3 + b) 0 := by
    have := begin_cr (g := up g 2 x 3 2) (i := b) (x := 2) (y := 600) (z := 0) 0
    exact this
  have g1 : (fX1_begin (up g 2 x 3 2) b 2 600 0) 3 (3 + b) 1 = (up g 2 x 3 2) 3 (3 + b) 1 := by
    have := begin_cr (g := up g 2 x 3 2) (i := b) (x := 2) (y := 600) (z := 0) 1
    exact this
  have z67 := bI.2.2.2.2.2.2.1 hb0
  have hrow : ∀ k, k < 23 → cr (fX4_addBasket (fX1_begin (up g 2 x 3 2) b 2 600 0) (3 + b) x sm) (3 + b) k = fX7_lay na nb nc nd (0 + 1) M1 (303 + b) (400 + 0) 2 600 (303 + b) k := by
    intro k hk9
    rw [lay_at (by omega)]
    by_cases q : k < 3 ∨ 7 < k
    · rw [if_neg (by omega), if_neg (by omega), if_neg (by omega), ← hbe k hk9, addBasket_cr (by rw [c0]; exact hf) k hk9, addBasket_cr (by rw [b0]; exact hf) k hk9, begin_cr, c0, c2, c5, b0, b2, b5, g0, g1, if_neg (show ¬ k = 7 by omega), if_neg (show ¬ k = 6 by omega), if_neg (show ¬ k = 3 by omega), if_neg (show ¬ k = 5 by omega), if_neg (show ¬ k = 4 by omega)]
    · rw [addBasket_cr (by rw [c0]; exact hf) k hk9, if_neg (by omega), if_neg (by omega), if_neg (by omega), if_neg (by omega), begin_cr]
      rcases (show k = 3 ∨ k = 4 ∨ k = 5 ∨ k = 6 ∨ k = 7 by omega) with rfl | rfl | rfl | rfl | rfl
      · show (0 : Int32) = M1 (400 + 0) 3
        rw [ho, if_neg (by omega), if_neg (by omega), if_neg (by omega), if_neg (by omega)]
      · rfl
      · rfl
      · show (0 : Int32) = fX7_come na nb nc nd (0 + 1) M1 (303 + b) (400 + 0) (303 + b) 6
        rw [come_o (by decide) (by decide) (by decide), e _ _ (by omega) (by omega)]; exact z67.1.symm
      · show (0 : Int32) = fX7_come na nb nc nd (0 + 1) M1 (303 + b) (400 + 0) (303 + b) 7
        rw [come_o (by decide) (by decide) (by decide), e _ _ (by omega) (by omega)]; exact z67.2.symm
  have ha := addBasket_o (fX1_begin (up g 2 x 3 2) b 2 600 0) (3 + b) x sm
  have hR3 : Rl na nb nc nd (fX4_addBasket (fX1_begin (up g 2 x 3 2) b 2 600 0) (3 + b) x sm) (u2 (fX7_lay na nb nc nd (0 + 1) M1 (303 + b) (400 + 0) 2 600) (200 + x) 3 2) := by
    refine hR2.row (j := 3 + b) (by omega) (bo.trans9 ha) (fun i q _ => by omega) (fun i q => by omega) (fun k hk9 => ?_) (fun r k q1 q2 => ?_)
    · rw [u2_nr (by omega), hrow k hk9, show 300 + (3 + b) = 303 + b by omega]
    · by_cases q : r = 200 + x
      · subst q
        by_cases q3 : k = 3
        · subst q3; rw [u2_eq, u2_eq]
        · rw [u2_nk q3, u2_nk q3, lay_nr (by omega)]
      · rw [u2_nr q, u2_nr q, lay_nr (by omega)]
  have cc : ∀ r k, r ≠ 303 + b → (r ≠ 200 + x ∨ k ≠ 3) → u2 (fX7_lay na nb nc nd (0 + 1) M1 (303 + b) (400 + 0) 2 600) (200 + x) 3 2 r k = M1 r k := fun r k q1 q2 => by
    rw [show u2 (fX7_lay na nb nc nd (0 + 1) M1 (303 + b) (400 + 0) 2 600) (200 + x) 3 2 r k = fX7_lay na nb nc nd (0 + 1) M1 (303 + b) (400 + 0) 2 600 r k from if_neg (by omega), lay_nr q1]
  have c00 : u2 (fX7_lay na nb nc nd (0 + 1) M1 (303 + b) (400 + 0) 2 600) (200 + x) 3 2 0 0 = m 0 0 := by rw [cc 0 0 (by omega) (by omega)]; exact e0 0 (by decide)
  have cm : ∀ r k, 100 ≤ r → r < 400 → r ≠ 303 + b → (r ≠ 200 + x ∨ k ≠ 3) → u2 (fX7_lay na nb nc nd (0 + 1) M1 (303 + b) (400 + 0) 2 600) (200 + x) 3 2 r k = m r k := fun r k q1 q2 q3 q4 => by rw [cc r k q3 q4, e r k q1 q2]
  have ho0 : M1 (400 + 0) 0 = sm := by rw [ho, if_neg (by omega), if_neg (by omega), if_neg (by omega), if_pos rfl]
  have hmo : mixI M1 (400 + 0) 300 := mixOf_I ho hf (by omega) (by omega) hbk.2.2.1
  refine ⟨?_, fun _ => ?_, hR3, ?_, ?_⟩
  · rw [cc 0 20 (by omega) (by omega)]; exact e20
  · have q := addBasket_cr (g := fX1_begin (up g 2 x 3 2) b 2 600 0) (j := 3 + b) (b := x) (sm := sm) (by rw [c0]; exact hf) 0 (by decide)
    rw [if_pos rfl, cr_3 (by decide), g0] at q
    rw [q, hv]
    have q2 := hbase 0 (by decide)
    rw [cr_3 (by decide)] at q2
    rw [q2, e _ _ (by omega) (by omega), hb0, Int32.zero_add]
  · refine hI.of ⟨by rw [c00]; exact Int.le_refl _, by rw [c00]; exact zh.2⟩ (fun i hi => cm _ _ (by omega) (by omega) (by omega) (by omega)) (fun i hi k hk => cm _ _ (by omega) (by omega) (by omega) (by omega)) (fun i hi => Or.inl (fun k _ => cm _ _ (by omega) (by omega) (by omega) (by omega))) (fun i hi => ?_) (fun i hi => Or.inl (fun k _ => cm _ _ (by omega) (by omega) (by omega) (by omega))) (sumK_same hI (fun i hi => cm _ _ (by omega) (by omega) (by omega) (by omega)))
    by_cases q : i = b
    · subst q
      refine Or.inr (lay_I (a := na) (b := nb) (c := nc) (d := nd) (t := 0 + 1) (m := M1) (o := 400 + 0) (me := 2) (mo := 600) (bI.cg (fun k _ => e _ _ (by omega) (by omega)) (by rw [e0 0 (by decide)]; exact Int.le_refl _)) (by omega) hmo (by rw [e _ _ (by omega) (by omega)]; exact hb0) (by rw [ho0]; exact h0) ?_ (Or.inr (Or.inr rfl)) (by decide) (fun k hk9 => ?_) (by rw [c00, e0 0 (by decide)]) (by rw [e0 0 (by decide)]; exact zh.1))
      · unfold ptI
        rw [ho 3, if_neg (by omega), if_neg (by omega), if_neg (by omega), if_neg (by omega), e0 0 (by decide), z0]; omega
      · rw [u2_nr (by omega)]
    · exact Or.inl (fun k _ => cm _ _ (by omega) (by omega) (by omega) (by omega))
  · unfold Tr
    rw [ha 3 20 0 (by omega), bo 3 20 0 (by omega), up_nt (by decide)]; exact hT
theorem P_whole (h : Rl na nb nc nd g m) (hI : Iv na nb nc nd m) (hT : Tr g) (x b : Int32) : Ok na nb nc nd (k13 (fX6_whole g x b).1) (fX6_whole g x b).1 (fX6_whole g x b).2.1 (fX6_whole g x b).2.2 (fX7_whole na nb nc nd 0 m x b).1 (fX7_whole na nb nc nd 0 m x b).2 := by
  unfold fX6_whole fX7_whole
  have z := hI.1
  rcases bask_is (T := 0) h hI x with ⟨a1, a2, a3, a4⟩ | ⟨a1, a2⟩
  · rw [if_pos a1, if_neg (a2 _)]
    rcases bed_is (T := 0) h hI b with ⟨b1, b2, b3, b4⟩ | ⟨b1, b2⟩
    · rw [if_pos b1, if_neg (b2 _)]
      have hb := hI.2.2.2.1 _ a3
      have es : (fX1_begin (up g 2 x.toNatClampNeg 3 2) b.toNatClampNeg 2 600 0) 2 x.toNatClampNeg 1 = m (200 + x.toNatClampNeg) 1 := by
        rw [begin_o _ _ _ _ _ 2 _ 1 (by omega), up_nk (by decide)]; exact h.ba hI a3 (by decide)
      rw [es, h.ba hI a3 (k := 3) (by decide), h.ba hI a3 (k := 1) (by decide)]
      by_cases s3 : m (200 + x.toNatClampNeg) 3 = 0
      · rw [if_pos s3, if_pos s3]
        by_cases s1 : m (200 + x.toNatClampNeg) 1 = 0
        · rw [if_pos s1, if_pos s1]; exact Ok.no (T := 0) h hI hT (by simp) rfl
        · rw [if_neg s1, if_neg s1]
          have hp := ne0_pos hb.2.1.1 s1
          rcases takesB_is (T := 0) h hI b3 (m9 := u2 m 0 20 0) (fun k => u2_nr (by omega)) (x := m (200 + x.toNatClampNeg) 1) with ⟨d1, d2⟩ | ⟨d1, d2, d3⟩
          · rw [if_pos d1, if_pos d2]; exact Ok.no (T := 0) h hI hT (by simp) rfl
          · rw [if_neg d1, if_neg d2]
            have key : ∀ su : Int32, (su = 0 ↔ m (200 + x.toNatClampNeg) 5 = 0) → Ok na nb nc nd 0 0 ((fX4_addBasket (fX1_begin (up g 2 x.toNatClampNeg 3 2) b.toNatClampNeg 2 600 0) (3 + b.toNatClampNeg) x.toNatClampNeg (m (200 + x.toNatClampNeg) 1)) 3 (3 + b.toNatClampNeg) 0) (fX4_addBasket (fX1_begin (up g 2 x.toNatClampNeg 3 2) b.toNatClampNeg 2 600 0) (3 + b.toNatClampNeg) x.toNatClampNeg (m (200 + x.toNatClampNeg) 1)) ((fX7_lay na nb nc nd (0 + 1) (fX7_mixOf na nb nc nd 0 (u2 m 0 20 0) (m (200 + x.toNatClampNeg) 0) (m (200 + x.toNatClampNeg) 1) (m (200 + x.toNatClampNeg) 2) su) (303 + b.toNatClampNeg) (400 + 0) 2 600) (200 + x.toNatClampNeg) 1) _ := fun su hs =>
              whole_core (su := su) (M1 := fX7_mixOf na nb nc nd 0 (u2 m 0 20 0) (m (200 + x.toNatClampNeg) 0) (m (200 + x.toNatClampNeg) 1) (m (200 + x.toNatClampNeg) 2) su) h hI hT a3 b3 hp hb.2.1.2 d3 (by rw [lay_nr (by omega), mixOf_nr (by omega), u2_nr (by omega)]) hs (fun k hk => by rw [mixOf_nr (by omega), u2_nk (by omega)]) (by rw [mixOf_nr (by omega), u2_eq]) (fun r k q1 q2 => by rw [mixOf_nr (by omega), u2_nr (by omega)]) (fun k => mixOf_at (T := 0) k)
            rcases hb.2.2.2 with c5 | c5
            · have n5 : ¬ m (200 + x.toNatClampNeg) 5 = 1 := by rw [c5]; decide
              rw [if_neg n5]; exact key 0 ⟨fun _ => c5, fun _ => rfl⟩
            · rw [if_pos c5]; exact key 1 ⟨fun q => absurd q (by decide), fun q => by rw [c5] at q; exact absurd q (by decide)⟩
      · rw [if_neg s3, if_neg s3]; exact Ok.no (T := 0) h hI hT (by simp) rfl
    · rw [if_neg (by rw [b1]; decide), if_pos (b2 _), b1]; exact Ok.no (T := 0) h hI hT (by simp) rfl
  · rw [if_neg (by rw [a1]; decide), if_pos (a2 _), a1]; exact Ok.no (T := 0) h hI hT (by simp) rfl
end WS
