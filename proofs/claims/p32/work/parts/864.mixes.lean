/-! ===== bring, pulp, wash, whole keep the invariant ===== -/
section MO
variable {na nb nc nd : Nat} {g : Gd} {gn pr : Int32}
def bG (g : Gd) (n i : Nat) (x hd rp c fl : Int32) : Gd :=
  up (up (up (up (up (fX0_fill g n x hd rp c) 0 0 8 ((fX0_fill g n x hd rp c) 0 0 8 + 1)) 0 0 3 ((fX0_fill g n x hd rp c) 0 0 3 + fl)) 1 i 3 ((fX0_fill g n x hd rp c) 1 i 3 + hd)) 1 i 2 ((fX0_fill g n x hd rp c) 1 i 2 + hd * (fX0_fill g n x hd rp c) 0 0 2)) 0 0 1 ((fX0_fill g n x hd rp c) 0 0 1 - hd * (fX0_fill g n x hd rp c) 0 0 2)
theorem b1a (a : Int32) : a + 1 - 1 = a := by grind
theorem b2a (e q w hd v : Int32) (h : e = q) (hw : w = 0) (hv : v = hd) : e + (e + hd - e) = q + (v - w) + 0 * e := by grind
theorem b3a (s e1 hd : Int32) : s + (e1 + hd - e1) = s + hd := by grind
theorem b4a (m s c1 q gn : Int32) (h : m + s = gn) : m - q + (s + (c1 + q - c1)) = gn := by grind
theorem bring_c9 (I : IV na nb nc nd gn pr g) {i : Nat} {x hd rp c fl : Int32} (hi : i < na) (hn : nb < 20) (hS : SY na (nb + 1) nc nd (bG g nb i x hd rp c fl)) : IV na (nb + 1) nc nd gn pr (bG g nb i x hd rp c fl) := by
  have z := I.S.cnt
  have K := I.S.kz hn (Nat.lt_irrefl nb)
  have f0 : ∀ t i2 k, ¬ (t = 2 ∧ i2 = nb) → (fX0_fill g nb x hd rp c) t i2 k = g t i2 k := fun t i2 k h => fill_o h
  have fa : ∀ k, k < 6 → (fX0_fill g nb x hd rp c) 2 nb k = if k = 0 then x else if k = 1 then hd else if k = 2 then rp else if k = 5 then c else g 2 nb k := fun k hk => fill_at k hk
  have g2 : ∀ i2 k, bG g nb i x hd rp c fl 2 i2 k = (fX0_fill g nb x hd rp c) 2 i2 k := fun i2 k => by
    unfold bG
    rw [up_nt (by decide), up_nt (by decide), up_nt (by decide), up_nt (by decide), up_nt (by decide)]
  have o : ∀ t i2 k, ¬ (t = 2 ∧ i2 = nb) → ¬ t = 1 → ¬ (t = 0 ∧ k ≠ 0) → bG g nb i x hd rp c fl t i2 k = g t i2 k := fun t i2 k h1 h2 h3 => by
    unfold bG
    rw [up_ne (by omega), up_ne (by omega), up_ne (by omega), up_ne (by omega), up_ne (by omega), f0 t i2 k h1]
  have e4 : bG g nb i x hd rp c fl 2 nb 4 = 0 := by rw [g2, fa 4 (by decide)]; exact K 4 (by decide)
  have e3 : bG g nb i x hd rp c fl 2 nb 3 = 0 := by rw [g2, fa 3 (by decide)]; exact K 3 (by decide)
  have e0 : (0 : Int32).toInt = 0 := rfl
  refine ⟨hS, I.E.b (j := nb) o ?_, ?_, ?_, ?_⟩
  · unfold bkE
    rw [e4, e3, e0]
    exact ⟨by omega, by omega, fun _ => by omega, fun h => absurd h (by decide)⟩
  · have q1 : Qs (bG g nb i x hd rp c fl) = Qs (fX0_fill g nb x hd rp c) := by
      unfold bG
      rw [Qs.n (by simp [irq]), Qs.n (by simp [irq]), Qs.n (by simp [irq]), Qs.n (by simp [irq]), Qs.n (by simp [irq])]
    have q2 : Qs (fX0_fill g nb x hd rp c) = Qs g + (wt (fX0_fill g nb x hd rp c) nb - wt g nb) := Qs.b hn (fun t i2 k h _ => f0 t i2 k h) (f0 _ _ _ (by omega)) (f0 _ _ _ (by omega))
    have w1 : wt (fX0_fill g nb x hd rp c) nb = hd := by
      unfold wt
      rw [fa 3 (by decide), fa 1 (by decide)]
      exact if_pos (K 3 (by decide))
    have w0 : wt g nb = 0 := by
      unfold wt
      rw [if_pos (K 3 (by decide)), K 1 (by decide)]
    have s1 : sm (evr (bG g nb i x hd rp c fl)) 6 = sm (evr g) 6 + (g 1 i 3 + hd - g 1 i 3) := by
      rw [sm_set (f := evr g) (f2 := evr (bG g nb i x hd rp c fl)) (x := i) 6 (by omega) (fun j hj hne => by
        show bG g nb i x hd rp c fl 1 j 3 = g 1 j 3
        unfold bG
        rw [up_nt (by decide), up_nk (by decide), up_ni hne, up_nt (by decide), up_nt (by decide), f0 _ _ _ (by omega)])]
      have : evr (bG g nb i x hd rp c fl) i = g 1 i 3 + hd := by
        show bG g nb i x hd rp c fl 1 i 3 = g 1 i 3 + hd
        unfold bG
        rw [up_nt (by decide), up_nk (by decide), up_eq, f0 _ _ _ (by omega)]
      rw [this]; rfl
    have hb := BAL.iff.mp I.B
    refine BAL.iff.mpr ?_
    rw [s1, q1, q2, w1, w0, b3a, hb]
    grind
  · have hc : sm (cns (bG g nb i x hd rp c fl)) 6 = sm (cns g) 6 + (g 1 i 2 + hd * g 0 0 2 - g 1 i 2) := by
      rw [sm_set (f := cns g) (f2 := cns (bG g nb i x hd rp c fl)) (x := i) 6 (by omega) (fun j hj hne => by
        show bG g nb i x hd rp c fl 1 j 2 = g 1 j 2
        unfold bG
        rw [up_nt (by decide), up_ni hne, up_ni hne, up_nt (by decide), up_nt (by decide), f0 _ _ _ (by omega)])]
      have : cns (bG g nb i x hd rp c fl) i = g 1 i 2 + hd * g 0 0 2 := by
        show bG g nb i x hd rp c fl 1 i 2 = _
        unfold bG
        rw [up_nt (by decide), up_eq, f0 _ _ _ (by omega), f0 _ _ _ (by omega)]
      rw [this]; rfl
    have hm : bG g nb i x hd rp c fl 0 0 1 = g 0 0 1 - hd * g 0 0 2 := by
      unfold bG
      rw [up_eq, f0 _ _ _ (by omega), f0 _ _ _ (by omega)]
    show bG g nb i x hd rp c fl 0 0 1 + sm (cns (bG g nb i x hd rp c fl)) 6 = gn
    rw [hm, hc]
    exact b4a _ _ _ _ _ I.M
  · have : bG g nb i x hd rp c fl 0 0 2 = g 0 0 2 := by
      unfold bG
      rw [up_nk (by decide), up_nt (by decide), up_nt (by decide), up_nk (by decide), up_nk (by decide), f0 _ _ _ (by omega)]
    rw [this]; exact I.P
theorem o_bring (I : IV na nb nc nd gn pr g) {x kg rp : Int32} (hx0 : 0 ≤ x.toInt) (hx : x.toInt < na) (hk : 1 ≤ kg.toInt ∧ kg.toInt ≤ 200) (hr : 0 ≤ rp.toInt ∧ rp.toInt ≤ 100) (hn : nb < 20) : ∃ (g2 : Gd) (hd c : Int32), fX6_bring g x kg rp = (0, nI nb, g2) ∧ IV na (nb + 1) nc nd gn pr g2 ∧ g2 0 0 0 = g 0 0 0 ∧ g2 2 nb 1 = hd ∧ g2 2 nb 5 = c ∧ g2 1 x.toNatClampNeg 2 = g 1 x.toNatClampNeg 2 + hd * pr ∧ g2 1 x.toNatClampNeg 3 = g 1 x.toNatClampNeg 3 + hd ∧ g2 1 x.toNatClampNeg 1 = g 1 x.toNatClampNeg 1 ∧ (g 1 x.toNatClampNeg 1 < g 0 0 0 / 24 → c = 0) ∧ (¬ g 1 x.toNatClampNeg 1 < g 0 0 0 / 24 → c = 1) := by
  have F := I.S.fa hx0 hx
  have z := I.S.cnt
  have e0 : (0 : Int32).toInt = 0 := rfl
  have e1 : (1 : Int32).toInt = 1 := rfl
  have e100 : (100 : Int32).toInt = 100 := rfl
  have e200 : (200 : Int32).toInt = 200 := rfl
  have hc8 : (g 0 0 8).toNatClampNeg = nb := by rw [I.S.b]; exact nI_clamp (by omega)
  have main : ∀ c : Int32, fX6_bring g x kg rp = (0, (fX0_fill g nb x (kg - kg * (100 - rp) / 200) rp c 0 0 8 + 1) - 1, bG g nb x.toNatClampNeg x (kg - kg * (100 - rp) / 200) rp c (kg * (100 - rp) / 200)) → (g 1 x.toNatClampNeg 1 < g 0 0 0 / 24 → c = 0) → (¬ g 1 x.toNatClampNeg 1 < g 0 0 0 / 24 → c = 1) → ∃ (g2 : Gd) (hd c : Int32), fX6_bring g x kg rp = (0, nI nb, g2) ∧ IV na (nb + 1) nc nd gn pr g2 ∧ g2 0 0 0 = g 0 0 0 ∧ g2 2 nb 1 = hd ∧ g2 2 nb 5 = c ∧ g2 1 x.toNatClampNeg 2 = g 1 x.toNatClampNeg 2 + hd * pr ∧ g2 1 x.toNatClampNeg 3 = g 1 x.toNatClampNeg 3 + hd ∧ g2 1 x.toNatClampNeg 1 = g 1 x.toNatClampNeg 1 ∧ (g 1 x.toNatClampNeg 1 < g 0 0 0 / 24 → c = 0) ∧ (¬ g 1 x.toNatClampNeg 1 < g 0 0 0 / 24 → c = 1) := by
    intro c e h1 h2
    generalize hhd : kg - kg * (100 - rp) / 200 = hd at e
    generalize hfl : kg * (100 - rp) / 200 = fl at e
    have f0 : ∀ t i2 k, ¬ (t = 2 ∧ i2 = nb) → (fX0_fill g nb x hd rp c) t i2 k = g t i2 k := fun t i2 k h => fill_o h
    have fa : ∀ k, k < 6 → (fX0_fill g nb x hd rp c) 2 nb k = if k = 0 then x else if k = 1 then hd else if k = 2 then rp else if k = 5 then c else g 2 nb k := fun k hk => fill_at k hk
    have hS : SY na (nb + 1) nc nd (bG g nb x.toNatClampNeg x hd rp c fl) := by
      obtain ⟨m, h, hI, hT⟩ := I.S
      have q := SY.of (P_bring h hI hT x kg rp)
      rw [e] at q
      generalize (fX7_bring na nb nc nd 0 m x kg rp).2.2 = dl at q
      have q8 := q.b
      have c8 : bG g nb x.toNatClampNeg x hd rp c fl 0 0 8 = nI (nb + 1) := by
        unfold bG
        rw [up_nk (by decide), up_nt (by decide), up_nt (by decide), up_nk (by decide), up_eq, f0 _ _ _ (by omega), h.b]
        exact nI_1 _
      have qc := q.cnt
      have e9 : nb + dl = nb + 1 := nI_inj (by omega) (by omega) (q8.symm.trans c8)
      rw [e9] at q
      exact q
    refine ⟨_, hd, c, by rw [e, f0 _ _ _ (by omega), b1a, I.S.b], bring_c9 I F.2.2 hn hS, ?_, ?_, ?_, ?_, ?_, ?_, h1, h2⟩
    · unfold bG
      rw [up_nk (by decide), up_nt (by decide), up_nt (by decide), up_nk (by decide), up_nk (by decide), f0 _ _ _ (by omega)]
    · unfold bG
      rw [up_nt (by decide), up_nt (by decide), up_nt (by decide), up_nt (by decide), up_nt (by decide), fa 1 (by decide)]; rfl
    · unfold bG
      rw [up_nt (by decide), up_nt (by decide), up_nt (by decide), up_nt (by decide), up_nt (by decide), fa 5 (by decide)]; rfl
    · unfold bG
      rw [up_nt (by decide), up_eq, f0 _ _ _ (by omega), f0 _ _ _ (by omega), I.P]
    · unfold bG
      rw [up_nt (by decide), up_nk (by decide), up_eq, f0 _ _ _ (by omega)]
    · unfold bG
      rw [up_nt (by decide), up_nk (by decide), up_nk (by decide), up_nt (by decide), up_nt (by decide), f0 _ _ _ (by omega)]
  have n1 : ¬ kg < 1 := by rw [lt_ti, e1]; omega
  have n2 : ¬ 200 < kg := by rw [lt_ti, e200]; omega
  have n3 : ¬ rp < 0 := by rw [lt_ti, e0]; omega
  have n4 : rp ≤ 100 := by rw [le_ti, e100]; omega
  have n5 : g 0 0 8 < 20 := by rw [I.S.b, lt_ti, ti_nI (by omega)]; show (nb : Int) < 20; omega
  by_cases c : g 1 x.toNatClampNeg 1 < g 0 0 0 / 24
  · refine main 0 ?_ (fun _ => rfl) (fun h => absurd c h)
    unfold fX6_bring
    rw [if_pos F.1, if_neg n1, if_neg n2, if_neg n3, if_pos n4, if_pos n5, if_pos c, hc8]
    rfl
  · refine main 1 ?_ (fun h => absurd h c) (fun _ => rfl)
    unfold fX6_bring
    rw [if_pos F.1, if_neg n1, if_neg n2, if_neg n3, if_pos n4, if_pos n5, if_neg c, hc8]
    rfl
theorem p1a (q k h w : Int32) (hw : w = k) : q + (0 - w) + (w - w) + h * 0 = q - k := by grind
theorem p2a (q w k h t : Int32) (hw : w = k) : ((q + (0 - w)) + (t + h - t)) + (k - h) = q := by grind
theorem o_pulp (I : IV na nb nc nd gn pr g) {x t : Int32} (hx0 : 0 ≤ x.toInt) (hx : x.toInt < nb) (ht0 : 0 ≤ t.toInt) (ht : t.toInt < (3 : Nat)) : ((fX6_pulp g x t).1 = 0 ∨ (fX6_pulp g x t).1 = 3) ∧ ∃ (v : Int32) (g2 : Gd), fL_pulp g x t = (v, g2) ∧ IV na nb nc nd gn pr g2 ∧ g2 0 0 0 = g 0 0 0 ∧ ((v = -1 ∧ g2 = g) ∨ (0 ≤ v ∧ v = g 3 t.toNatClampNeg 0 + g2 2 x.toNatClampNeg 1 / 2 ∧ ¬ 300 < v ∧ g2 2 x.toNatClampNeg 3 = 1)) := by
  have F := I.S.ba hx0 hx
  have G := tk_at (g := g) ht0 ht
  have z := I.S.cnt
  have no : ∀ w : Gd, fX6_pulp g x t = (3, 0, g) → ((fX6_pulp g x t).1 = 0 ∨ (fX6_pulp g x t).1 = 3) ∧ ∃ (v : Int32) (g2 : Gd), fL_pulp g x t = (v, g2) ∧ IV na nb nc nd gn pr g2 ∧ g2 0 0 0 = g 0 0 0 ∧ ((v = -1 ∧ g2 = g) ∨ (0 ≤ v ∧ v = g 3 t.toNatClampNeg 0 + g2 2 x.toNatClampNeg 1 / 2 ∧ ¬ 300 < v ∧ g2 2 x.toNatClampNeg 3 = 1)) := fun _ e => by
    refine ⟨Or.inr (by rw [e]), -1, g, ?_, I, rfl, Or.inl ⟨rfl, rfl⟩⟩
    unfold fL_pulp
    rw [e, if_neg (show ¬ (3 : Nat) = 0 by decide)]
  by_cases c1 : g 2 x.toNatClampNeg 3 = 0
  · by_cases c2 : g 2 x.toNatClampNeg 1 / 2 = 0
    · exact no g (by unfold fX6_pulp; rw [if_pos F.1, if_pos G.1, if_pos c1, if_pos c2])
    · by_cases c3 : fX5_takes g t.toNatClampNeg (g 2 x.toNatClampNeg 1 / 2) = 0
      · exact no g (by unfold fX6_pulp; rw [if_pos F.1, if_pos G.1, if_pos c1, if_neg c2, if_pos c3])
      · generalize hi : x.toNatClampNeg = i at *
        generalize hj : t.toNatClampNeg = j at *
        generalize hhf : g 2 i 1 / 2 = hf at *
        have B := I.S.bask F.2
        have T := I.S.tank G.2.2
        have f6 := T.f6
        have e0 : (0 : Int32).toInt = 0 := rfl
        have e2 : (2 : Int32).toInt = 2 := rfl
        have hb : hf.toInt = (g 2 i 1).toInt / 2 := by rw [← hhf, ti_div (by omega) (by rw [e2]; omega), e2]
        have hb0 : ¬ hf.toInt = 0 := fun w => c2 (ti_eq (by rw [e0]; exact w))
        have c4 : ¬ 300 < g 3 j 0 + hf := by
          intro w
          apply c3
          unfold fX5_takes
          rw [if_pos w]
          split
          · split <;> rfl
          · rfl
        have ek : (g 3 j 0 + hf).toInt = (g 3 j 0).toInt + hf.toInt := ti_add (by have := T.2.2.1; omega) (by have := T.2.2.1; omega)
        let g1 : Gd := up g 2 i 3 1
        have hg1 : ∀ t k2 c, ¬ (t = 2 ∧ k2 = i ∧ c = 3) → g1 t k2 c = g t k2 c := fun t k2 c h => up_ne h
        have hfm : (g1 2 i 0).toNatClampNeg < na := by
          rw [hg1 2 i 0 (by omega)]
          have := clamp_ti (x := g 2 i 0) (by omega)
          omega
        let A : Gd := fX4_addBasket g1 j i hf
        have oA : only3 g1 A j := addBasket_o g1 j i hf
        have cA := addBasket_cr (g := g1) (j := j) (b := i) (sm := hf) (by omega)
        have A0 : A 3 j 0 = g 3 j 0 + hf := by
          have q := cA 0 (by decide)
          rw [cr_3 (by decide), if_pos rfl, hg1 3 j 0 (by omega)] at q
          exact q
        have e : fX6_pulp g x t = (0, A 3 j 0, up A 0 0 5 (A 0 0 5 + (A 2 i 1 - hf))) := by
          unfold fX6_pulp
          rw [hi, hj, if_pos F.1, if_pos G.1, if_pos c1, hhf, if_neg c2, if_neg c3]
        have a21 : A 2 i 1 = g 2 i 1 := (oA 2 i 1 (by omega)).trans (hg1 2 i 1 (by omega))
        refine ⟨Or.inl (by rw [e]), A 3 j 0, up A 0 0 5 (A 0 0 5 + (A 2 i 1 - hf)), ?_, ⟨?_, ?_, ?_, ?_, ?_⟩, ?_, Or.inr ⟨?_, ?_, ?_, ?_⟩⟩
        · unfold fL_pulp; rw [e, if_pos rfl]
        · have q : SY na nb nc nd (fX6_pulp g x t).2.2 := by
            obtain ⟨m, h, hI, hT⟩ := I.S
            exact SY.of (P_pulp h hI hT x t)
          rw [e] at q
          exact q
        · refine E0.up ?_ z.2.2.1 rfl
          have E1 : E0 na nc g1 := I.E.b (j := i) (fun t k2 c h1 h2 h3 => hg1 t k2 c (fun w => h1 ⟨w.1, w.2.1⟩)) (by
            have x4 := I.E.x4 (i := i) (by omega)
            unfold bkE at x4 ⊢
            rw [hg1 2 i 4 (by omega), show g1 2 i 3 = 1 from up_eq _ _ _ _ _]
            exact ⟨x4.1, x4.2.1, fun w => absurd w (by decide), fun w => absurd w (by decide)⟩)
          refine E1.row z.2.2.1 oA (fun f h1 h2 h3 => ?_) (fun i2 hi2 w => ?_) (fun i2 hi2 w => absurd w (by have := G.2.2; omega))
          · have q := cA (11 + f) (by omega)
            rw [cr_4 h2, if_neg (by omega), if_neg (by omega), if_neg (by omega), if_neg (by omega), cr_4 h2] at q
            exact q.trans (E1.x1 h3 h1 h2)
          · subst w
            intro w
            rw [show A 3 j 0 = _ from A0] at w
            have := congrArg Int32.toInt w
            rw [ek, e0] at this
            omega
        · refine BAL.iff.mpr ?_
          have q1 : Qs g1 = Qs g + (wt g1 i - wt g i) := Qs.b (j := i) (by omega) (fun t k2 c h _ => hg1 t k2 c (fun w => h ⟨w.1, w.2.1⟩)) (hg1 _ _ _ (by omega)) (hg1 _ _ _ (by omega))
          have q2 : Qs A = Qs g1 + (A 3 j 0 - g1 3 j 0) := Qs.tk oA G.2.2
          have w1 : wt g1 i = 0 := by unfold wt; rw [show g1 2 i 3 = 1 from up_eq _ _ _ _ _]; exact if_neg (by decide)
          have w0 : wt g i = g 2 i 1 := by unfold wt; rw [if_pos c1]
          have s1 : sm (evr (up A 0 0 5 (A 0 0 5 + (A 2 i 1 - hf)))) 6 = sm (evr g) 6 := ev_cg (fun k hk => by
            rw [up_nt (by decide), oA 1 k 3 (by omega)]; exact hg1 1 k 3 (by omega))
          rw [s1, Qs.l5, q2, q1, w1, w0, A0, a21, hg1 3 j 0 (by omega), BAL.iff.mp I.B]
          grind
        · refine COIN.up ?_ (by omega) (by omega)
          exact (I.M.cg (g2 := g1) (hg1 _ _ _ (by omega)) (fun k _ => hg1 _ _ _ (by omega))).o3 oA
        · rw [up_nk (by decide), oA 0 0 2 (by omega), hg1 0 0 2 (by omega)]; exact I.P
        · rw [up_nk (by decide), oA 0 0 0 (by omega), hg1 0 0 0 (by omega)]
        · rw [A0, le_ti, ek, e0]; omega
        · rw [up_nt (by decide), a21, hhf, A0]
        · rw [A0]; exact c4
        · rw [up_nt (by decide), oA 2 i 3 (by omega)]; exact up_eq _ _ _ _ _
  · exact no g (by unfold fX6_pulp; rw [if_pos F.1, if_pos G.1, if_neg c1])
theorem takes_i9 {b : Nat} {k : Int32} (h : ¬ fX1_takes g b k = 0) : g 3 (3 + b) 0 = 0 ∧ ¬ 12 * g 3 (3 + b) 8 < k := by
  unfold fX1_takes fX4_isEmpty at h
  by_cases c : g 3 (3 + b) 0 = 0
  · rw [if_pos c, if_neg (by decide)] at h
    by_cases c2 : 12 * g 3 (3 + b) 8 < k
    · rw [if_pos c2] at h; exact absurd rfl h
    · exact ⟨c, c2⟩
  · rw [if_neg c, if_pos rfl] at h; exact absurd rfl h
/-- the grid when a tank has come onto a bed -/
def wG (g : Gd) (b t : Nat) (me mo : Int32) : Gd := fX5_empty (fX4_addMix (fX1_begin g b me mo (g 3 t 3)) (3 + b) t) t
theorem wash_c9 (I : IV na nb nc nd gn pr g) {b t : Nat} {me mo : Int32} (hb : b < nc) (ht : t < 3) (hk : ¬ g 3 t 0 = 0) (htk : ¬ fX1_takes g b (g 3 t 0) = 0) (hmo : 80 ≤ mo.toInt) : E0 na nc (wG g b t me mo) ∧ BAL (wG g b t me mo) ∧ COIN (wG g b t me mo) gn ∧ (∀ k, wG g b t me mo 0 0 k = g 0 0 k) ∧ wG g b t me mo 3 (3 + b) 0 = g 3 t 0 ∧ wG g b t me mo 3 t 0 = 0 ∧ wG g b t me mo 3 (3 + b) 4 = me := by
  have z := I.S.cnt
  obtain ⟨k1, k2⟩ := takes_i9 htk
  have e0 : (0 : Int32).toInt = 0 := rfl
  have e12 : (12 : Int32).toInt = 12 := rfl
  have Y := I.S.bedv hb
  have T := (I.S.tank ht).f6
  let g1 : Gd := fX1_begin g b me mo (g 3 t 3)
  let g2 : Gd := fX4_addMix g1 (3 + b) t
  let g3 : Gd := fX5_empty g2 t
  have o1 : only3 g g1 (3 + b) := begin_o g b me mo _
  have o2 : only3 g1 g2 (3 + b) := addMix_o g1 (3 + b) t
  have o12 : only3 g g2 (3 + b) := o1.trans9 o2
  have o3 : only3 g2 g3 t := emptyT_o g2 t
  have c1 := begin_cr (g := g) (i := b) (x := me) (y := mo) (z := g 3 t 3)
  have c2 := addMix_cr g1 (3 + b) t
  have c3 := emptyT_cr (g := g2) (i := t)
  have h2 : ∀ k, k < 11 → g2 3 (3 + b) k = if k = 1 then fX6_meanByKilos (g1 3 (3 + b) 0) (g1 3 (3 + b) 1) (g1 3 t 0) (g1 3 t 1) else if k = 0 then g1 3 (3 + b) k + g1 3 t k else g1 3 (3 + b) k := fun k hk => by
    have q := c2 k (by omega)
    rw [cr_3 hk, cr_3 hk, cr_3 hk] at q
    refine q.trans ?_
    by_cases w : k = 0
    · subst w; rfl
    · by_cases w1 : k = 1
      · rw [if_pos w1, if_pos w1]
      · rw [if_neg w1, if_neg (by omega), if_neg w1, if_neg w]
  have h1 : ∀ k, k < 11 → g1 3 (3 + b) k = if k = 7 then 0 else if k = 6 then 0 else if k = 3 then g 3 t 3 else if k = 5 then mo else if k = 4 then me else g 3 (3 + b) k := fun k hk => by
    have q := c1 k
    rw [cr_3 hk, cr_3 hk] at q
    exact q
  have t0 : ∀ c k, g1 c t k = g c t k := fun c k => o1 c t k (by omega)
  have b0 : g2 3 (3 + b) 0 = g 3 t 0 := by
    rw [h2 0 (by decide)]
    show g1 3 (3 + b) 0 + g1 3 t 0 = g 3 t 0
    rw [h1 0 (by decide), t0]
    show g 3 (3 + b) 0 + g 3 t 0 = _
    rw [k1, Int32.zero_add]
  have E2 : E0 na nc g2 := by
    refine I.E.row z.2.2.1 o12 (fun f f1 f2 f3 => ?_) (fun i hi w => absurd w (by omega)) (fun i hi w => ?_)
    · have q := c2 (11 + f) (by omega)
      rw [cr_4 f2, cr_4 f2, cr_4 f2, if_neg (by omega), if_pos (by omega)] at q
      have q1 := c1 (11 + f)
      rw [cr_4 f2, if_neg (by omega), if_neg (by omega), if_neg (by omega), if_neg (by omega), if_neg (by omega), cr_4 f2] at q1
      have q1' : g1 4 (3 + b) f = g 4 (3 + b) f := q1
      refine q.trans ?_
      rw [q1', t0, I.E.x1 f3 f1 f2, I.E.x1 (by omega) f1 f2]
      rfl
    · have w : i = b := by omega
      subst w
      have e8 : g2 3 (3 + i) 8 = g 3 (3 + i) 8 := by rw [h2 8 (by decide), h1 8 (by decide)]; rfl
      have e5 : g2 3 (3 + i) 5 = mo := by rw [h2 5 (by decide), h1 5 (by decide)]; rfl
      have e6 : g2 3 (3 + i) 6 = 0 := by rw [h2 6 (by decide), h1 6 (by decide)]; rfl
      have hh := I.S.hr
      unfold bdE
      rw [b0, e8, e5, e6, e0, o12 0 0 0 (by omega)]
      refine ⟨?_, fun _ => hmo, fun w => absurd w hk, by omega, hh.1⟩
      rw [lt_ti, ti_mul (by rw [e12]; omega) (by rw [e12]; omega), e12] at k2
      omega
  have h3 : ∀ k, k < 11 → g3 3 t k = if k = 3 then 0 else if k = 2 then 0 else if k = 1 ∨ k = 0 ∨ 11 ≤ k then 0 else g2 3 t k := fun k hk => by
    have q := c3 k (by omega)
    rw [cr_3 hk, cr_3 hk] at q
    exact q
  have t30 : g3 3 t 0 = 0 := h3 0 (by decide)
  refine ⟨?_, ?_, (I.M.o3 o12).o3 o3, fun k => ?_, ?_, t30, ?_⟩
  · refine E2.row z.2.2.1 o3 (fun f f1 f2 f3 => ?_) (fun i hi w => ?_) (fun i hi w => absurd w (by omega))
    · have q := c3 (11 + f) (by omega)
      rw [cr_4 f2, if_neg (by omega), if_neg (by omega), if_pos (by omega)] at q
      exact q
    · subst w
      intro _
      exact ⟨h3 1 (by decide), h3 2 (by decide), h3 3 (by decide)⟩
  · refine BAL.iff.mpr ?_
    have q2 : Qs g2 = Qs g + (g2 3 (3 + b) 0 - g 3 (3 + b) 0) := Qs.bd o12 (by omega)
    have q3 : Qs g3 = Qs g2 + (g3 3 t 0 - g2 3 t 0) := Qs.tk o3 ht
    have s1 : sm (evr g3) 6 = sm (evr g) 6 := ev_cg (fun k hk => by rw [o3 1 k 3 (by omega), o12 1 k 3 (by omega)])
    show sm (evr g3) 6 = Qs g3
    rw [s1, q3, q2, b0, k1, t30, o12 3 t 0 (by omega), BAL.iff.mp I.B]
    grind
  · show g3 0 0 k = g 0 0 k
    rw [o3 0 0 k (by omega), o12 0 0 k (by omega)]
  · show g3 3 (3 + b) 0 = _
    rw [o3 3 (3 + b) 0 (by omega), b0]
  · show g3 3 (3 + b) 4 = _
    rw [o3 3 (3 + b) 4 (by omega), h2 4 (by decide), h1 4 (by decide)]; rfl
theorem o_wash (I : IV na nb nc nd gn pr g) {t b ho : Int32} (ht0 : 0 ≤ t.toInt) (ht : t.toInt < (3 : Nat)) (hb0 : 0 ≤ b.toInt) (hb : b.toInt < nc) : ((fX6_wash g t b ho).1 = 0 ∨ (fX6_wash g t b ho).1 = 3) ∧ ∃ (v : Int32) (g2 : Gd), fL_wash g t b ho = (v, g2) ∧ IV na nb nc nd gn pr g2 ∧ g2 0 0 0 = g 0 0 0 ∧ ((v = -1 ∧ g2 = g) ∨ (0 ≤ v ∧ v = g 3 t.toNatClampNeg 0 ∧ g 3 (3 + b.toNatClampNeg) 0 = 0 ∧ g2 3 (3 + b.toNatClampNeg) 0 = v ∧ g2 3 t.toNatClampNeg 0 = 0 ∧ g2 3 (3 + b.toNatClampNeg) 4 ≤ 1)) := by
  have F := I.S.be hb0 hb
  have G := tk_at (g := g) ht0 ht
  have z := I.S.cnt
  have e0 : (0 : Int32).toInt = 0 := rfl
  have no : fX6_wash g t b ho = (3, 0, g) → ((fX6_wash g t b ho).1 = 0 ∨ (fX6_wash g t b ho).1 = 3) ∧ ∃ (v : Int32) (g2 : Gd), fL_wash g t b ho = (v, g2) ∧ IV na nb nc nd gn pr g2 ∧ g2 0 0 0 = g 0 0 0 ∧ ((v = -1 ∧ g2 = g) ∨ (0 ≤ v ∧ v = g 3 t.toNatClampNeg 0 ∧ g 3 (3 + b.toNatClampNeg) 0 = 0 ∧ g2 3 (3 + b.toNatClampNeg) 0 = v ∧ g2 3 t.toNatClampNeg 0 = 0 ∧ g2 3 (3 + b.toNatClampNeg) 4 ≤ 1)) := fun e => by
    refine ⟨Or.inr (by rw [e]), -1, g, ?_, I, rfl, Or.inl ⟨rfl, rfl⟩⟩
    unfold fL_wash
    rw [e, if_neg (show ¬ (3 : Nat) = 0 by decide)]
  have T := (I.S.tank G.2.2).f6
  by_cases c1 : g 3 t.toNatClampNeg 0 = 0
  · exact no (by unfold fX6_wash fX4_isEmpty; rw [if_pos G.1, if_pos F.1, if_pos c1, if_neg (by decide)])
  · have c1' : (if g 3 t.toNatClampNeg 0 = 0 then (1 : Int32) else 0) = 0 := if_neg c1
    by_cases c2 : fX1_takes g b.toNatClampNeg (g 3 t.toNatClampNeg 0) = 0
    · exact no (by unfold fX6_wash fX4_isEmpty; rw [if_pos G.1, if_pos F.1, if_pos c1', if_pos c2])
    · have k1 := (takes_i9 c2).1
      have v0 : 0 ≤ g 3 t.toNatClampNeg 0 := by rw [le_ti, e0]; exact T.2
      have q : SY na nb nc nd (fX6_wash g t b ho).2.2 := by
        obtain ⟨m, h, hI, hT⟩ := I.S
        exact SY.of (P_wash (T := 0) h hI hT t b ho)
      by_cases c3 : ho = 0
      · have W := wash_c9 (me := 0) (mo := 550) I F.2 G.2.2 c1 c2 (by decide)
        have e : fX6_wash g t b ho = (0, g 3 t.toNatClampNeg 0, up (wG g b.toNatClampNeg t.toNatClampNeg 0 550) 0 0 6 (wG g b.toNatClampNeg t.toNatClampNeg 0 550 0 0 6 + 3 * g 3 t.toNatClampNeg 0)) := by
          unfold fX6_wash fX4_isEmpty; rw [if_pos G.1, if_pos F.1, if_pos c1', if_neg c2, if_pos c3]; rfl
        rw [e] at q
        refine ⟨Or.inl (by rw [e]), _, _, (by unfold fL_wash; rw [e, if_pos rfl]), ⟨q, W.1.up z.2.2.1 rfl, W.2.1.up rfl, W.2.2.1.up (by omega) (by omega), ?_⟩, ?_, Or.inr ⟨v0, rfl, k1, ?_, ?_, ?_⟩⟩
        · dsimp only; rw [up_nk (by decide), W.2.2.2.1]; exact I.P
        · dsimp only; rw [up_nk (by decide), W.2.2.2.1]
        · dsimp only; rw [up_nt (by decide)]; exact W.2.2.2.2.1
        · dsimp only; rw [up_nt (by decide)]; exact W.2.2.2.2.2.1
        · dsimp only; rw [up_nt (by decide), W.2.2.2.2.2.2]; decide
      · by_cases c4 : g 3 t.toNatClampNeg 3 < 30
        · have W := wash_c9 (me := 1) (mo := 570) I F.2 G.2.2 c1 c2 (by decide)
          have e : fX6_wash g t b ho = (0, g 3 t.toNatClampNeg 0, wG g b.toNatClampNeg t.toNatClampNeg 1 570) := by
            unfold fX6_wash fX4_isEmpty; rw [if_pos G.1, if_pos F.1, if_pos c1', if_neg c2, if_neg c3, if_pos c4]; rfl
          rw [e] at q
          refine ⟨Or.inl (by rw [e]), _, _, (by unfold fL_wash; rw [e, if_pos rfl]), ⟨q, W.1, W.2.1, W.2.2.1, ?_⟩, ?_, Or.inr ⟨v0, rfl, k1, ?_, ?_, ?_⟩⟩
          · dsimp only; rw [W.2.2.2.1]; exact I.P
          · dsimp only; rw [W.2.2.2.1]
          · exact W.2.2.2.2.1
          · exact W.2.2.2.2.2.1
          · dsimp only; rw [W.2.2.2.2.2.2]; decide
        · exact no (by unfold fX6_wash fX4_isEmpty; rw [if_pos G.1, if_pos F.1, if_pos c1', if_neg c2, if_neg c3, if_neg c4])
theorem o_whole (I : IV na nb nc nd gn pr g) {x b : Int32} (hx0 : 0 ≤ x.toInt) (hx : x.toInt < nb) (hb0 : 0 ≤ b.toInt) (hb : b.toInt < nc) : ((fX6_whole g x b).1 = 0 ∨ (fX6_whole g x b).1 = 3) ∧ ∃ (v : Int32) (g2 : Gd), fL_whole g x b = (v, g2) ∧ IV na nb nc nd gn pr g2 ∧ g2 0 0 0 = g 0 0 0 ∧ ((v = -1 ∧ g2 = g) ∨ (0 ≤ v ∧ g 3 (3 + b.toNatClampNeg) 0 = 0 ∧ g2 3 (3 + b.toNatClampNeg) 0 = v ∧ g2 2 x.toNatClampNeg 3 = 2 ∧ g2 3 (3 + b.toNatClampNeg) 4 = 2)) := by
  have F := I.S.ba hx0 hx
  have G := I.S.be hb0 hb
  have z := I.S.cnt
  have e0 : (0 : Int32).toInt = 0 := rfl
  have e12 : (12 : Int32).toInt = 12 := rfl
  have no : fX6_whole g x b = (3, 0, g) → ((fX6_whole g x b).1 = 0 ∨ (fX6_whole g x b).1 = 3) ∧ ∃ (v : Int32) (g2 : Gd), fL_whole g x b = (v, g2) ∧ IV na nb nc nd gn pr g2 ∧ g2 0 0 0 = g 0 0 0 ∧ ((v = -1 ∧ g2 = g) ∨ (0 ≤ v ∧ g 3 (3 + b.toNatClampNeg) 0 = 0 ∧ g2 3 (3 + b.toNatClampNeg) 0 = v ∧ g2 2 x.toNatClampNeg 3 = 2 ∧ g2 3 (3 + b.toNatClampNeg) 4 = 2)) := fun e => by
    refine ⟨Or.inr (by rw [e]), -1, g, ?_, I, rfl, Or.inl ⟨rfl, rfl⟩⟩
    unfold fL_whole
    rw [e, if_neg (show ¬ (3 : Nat) = 0 by decide)]
  by_cases c1 : g 2 x.toNatClampNeg 3 = 0
  · by_cases c2 : g 2 x.toNatClampNeg 1 = 0
    · exact no (by unfold fX6_whole; rw [if_pos F.1, if_pos G.1, if_pos c1, if_pos c2])
    · by_cases c3 : fX1_takes g b.toNatClampNeg (g 2 x.toNatClampNeg 1) = 0
      · exact no (by unfold fX6_whole; rw [if_pos F.1, if_pos G.1, if_pos c1, if_neg c2, if_pos c3])
      · have q : SY na nb nc nd (fX6_whole g x b).2.2 := by
          obtain ⟨m, h, hI, hT⟩ := I.S
          exact SY.of (P_whole h hI hT x b)
        generalize hi : x.toNatClampNeg = i at *
        generalize hj : b.toNatClampNeg = j at *
        obtain ⟨k1, k2⟩ := takes_i9 c3
        have B := I.S.bask F.2
        have Y := I.S.bedv G.2
        have hkp : 0 < (g 2 i 1).toInt := by
          have h : ¬ (g 2 i 1).toInt = 0 := fun w => c2 (ti_eq (by rw [e0]; exact w))
          omega
        let g1 : Gd := up g 2 i 3 2
        have hg1 : ∀ t k2 c, ¬ (t = 2 ∧ k2 = i ∧ c = 3) → g1 t k2 c = g t k2 c := fun t k2 c h => up_ne h
        let g2 : Gd := fX1_begin g1 j 2 600 0
        have o2 : only3 g1 g2 (3 + j) := begin_o g1 j 2 600 0
        have k21 : g2 2 i 1 = g 2 i 1 := (o2 2 i 1 (by omega)).trans (hg1 2 i 1 (by omega))
        have hfm : (g2 2 i 0).toNatClampNeg < na := by
          rw [o2 2 i 0 (by omega), hg1 2 i 0 (by omega)]
          have := clamp_ti (x := g 2 i 0) (by omega)
          omega
        let A : Gd := fX4_addBasket g2 (3 + j) i (g2 2 i 1)
        have oA : only3 g2 A (3 + j) := addBasket_o g2 (3 + j) i _
        have o12 : only3 g1 A (3 + j) := o2.trans9 oA
        have cA := addBasket_cr (g := g2) (j := 3 + j) (b := i) (sm := g2 2 i 1) (by omega)
        have c2' := begin_cr (g := g1) (i := j) (x := 2) (y := 600) (z := 0)
        have h2 : ∀ k, k < 11 → g2 3 (3 + j) k = if k = 7 then 0 else if k = 6 then 0 else if k = 3 then 0 else if k = 5 then 600 else if k = 4 then 2 else g 3 (3 + j) k := fun k hk => by
          have q := c2' k
          rw [cr_3 hk, cr_3 hk, hg1 3 (3 + j) k (by omega)] at q
          exact q
        have hA : ∀ k, k < 11 → ¬ k = 0 → ¬ k = 1 → A 3 (3 + j) k = g2 3 (3 + j) k := fun k hk n0 n1 => by
          have q := cA k (by omega)
          rw [cr_3 hk, cr_3 hk, if_neg n0, if_neg n1, if_neg (by omega), if_neg (by omega)] at q
          exact q
        have A0 : A 3 (3 + j) 0 = g 2 i 1 := by
          have q := cA 0 (by decide)
          rw [cr_3 (by decide), if_pos rfl, h2 0 (by decide)] at q
          refine q.trans ?_
          show g 3 (3 + j) 0 + g2 2 i 1 = g 2 i 1
          rw [k21, k1, Int32.zero_add]
        have e : fX6_whole g x b = (0, A 3 (3 + j) 0, A) := by
          unfold fX6_whole
          rw [hi, hj, if_pos F.1, if_pos G.1, if_pos c1, if_neg c2, if_neg c3]
        rw [e] at q
        refine ⟨Or.inl (by rw [e]), A 3 (3 + j) 0, A, (by unfold fL_whole; rw [e, if_pos rfl]), ⟨q, ?_, ?_, ?_, ?_⟩, ?_, Or.inr ⟨?_, k1, rfl, ?_, ?_⟩⟩
        · have E1 : E0 na nc g1 := I.E.b (j := i) (fun t k2 c h1 h2 h3 => hg1 t k2 c (fun w => h1 ⟨w.1, w.2.1⟩)) (by
            have x4 := I.E.x4 (i := i) (by omega)
            unfold bkE at x4 ⊢
            rw [hg1 2 i 4 (by omega), show g1 2 i 3 = 2 from up_eq _ _ _ _ _]
            exact ⟨x4.1, x4.2.1, fun w => absurd w (by decide), fun w => absurd w (by decide)⟩)
          refine E1.row z.2.2.1 o12 (fun f f1 f2 f3 => ?_) (fun i2 hi2 w => absurd w (by omega)) (fun i2 hi2 w => ?_)
          · have q := cA (11 + f) (by omega)
            rw [cr_4 f2, if_neg (by omega), if_neg (by omega), if_neg (by omega), if_neg (by omega), cr_4 f2] at q
            have q1 := c2' (11 + f)
            rw [cr_4 f2, if_neg (by omega), if_neg (by omega), if_neg (by omega), if_neg (by omega), if_neg (by omega), cr_4 f2] at q1
            exact q.trans (q1.trans (E1.x1 f3 f1 f2))
          · have w : i2 = j := by omega
            subst w
            have hh := I.S.hr
            unfold bdE
            rw [A0, hA 8 (by decide) (by decide) (by decide), hA 5 (by decide) (by decide) (by decide), hA 6 (by decide) (by decide) (by decide), h2 8 (by decide), h2 5 (by decide), h2 6 (by decide), o12 0 0 0 (by omega), hg1 0 0 0 (by omega)]
            show (g 2 i 1).toInt ≤ 12 * (g 3 (3 + i2) 8).toInt ∧ (¬ g 2 i 1 = 0 → 80 ≤ (600 : Int32).toInt) ∧ (g 2 i 1 = 0 → _) ∧ 0 ≤ (0 : Int32).toInt ∧ (0 : Int32).toInt ≤ (g 0 0 0).toInt
            rw [lt_ti, ti_mul (by rw [e12]; omega) (by rw [e12]; omega), e12] at k2
            exact ⟨by omega, fun _ => by decide, fun w => absurd w c2, by decide, hh.1⟩
        · refine BAL.iff.mpr ?_
          have q1 : Qs g1 = Qs g + (wt g1 i - wt g i) := Qs.b (j := i) (by omega) (fun t k2 c h _ => hg1 t k2 c (fun w => h ⟨w.1, w.2.1⟩)) (hg1 _ _ _ (by omega)) (hg1 _ _ _ (by omega))
          have q2 : Qs A = Qs g1 + (A 3 (3 + j) 0 - g1 3 (3 + j) 0) := Qs.bd o12 (by omega)
          have w1 : wt g1 i = 0 := by unfold wt; rw [show g1 2 i 3 = 2 from up_eq _ _ _ _ _]; exact if_neg (by decide)
          have w0 : wt g i = g 2 i 1 := by unfold wt; rw [if_pos c1]
          have s1 : sm (evr A) 6 = sm (evr g) 6 := ev_cg (fun k hk => by
            rw [o12 1 k 3 (by omega)]; exact hg1 1 k 3 (by omega))
          rw [s1, q2, q1, w1, w0, A0, hg1 3 (3 + j) 0 (by omega), k1, BAL.iff.mp I.B]
          grind
        · exact (I.M.cg (g2 := g1) (hg1 _ _ _ (by omega)) (fun k _ => hg1 _ _ _ (by omega))).o3 o12
        · rw [o12 0 0 2 (by omega), hg1 0 0 2 (by omega)]; exact I.P
        · rw [o12 0 0 0 (by omega), hg1 0 0 0 (by omega)]
        · rw [A0, le_ti, e0]; omega
        · rw [o12 2 i 3 (by omega)]; exact up_eq _ _ _ _ _
        · rw [hA 4 (by decide) (by decide) (by decide), h2 4 (by decide)]; rfl
  · exact no (by unfold fX6_whole; rw [if_pos F.1, if_pos G.1, if_neg c1])
end MO
