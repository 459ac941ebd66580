/-! ===== store, blend, sell keep the invariant ===== -/
section SB
variable {na nb nc nd : Nat} {g g2 : Gd} {gn pr : Int32}
theorem SY.rz (h : SY na nb nc nd g) {i k : Nat} (hi : i < 12) (q : ¬ i < nd) (hk : k < 3) : g 6 i k = -1 := by
  obtain ⟨m, h1, h2, h3⟩ := h
  rw [h1.2.2.2.2.2.2.2.1 i hi k hk, if_neg q]
theorem E0.cg (h : E0 na nc g) (o : ∀ t i k, ¬ t = 1 → ¬ (t = 0 ∧ k ≠ 0) → g2 t i k = g t i k) : E0 na nc g2 := by
  refine ⟨fun i hi f h1 h2 => ?_, fun i hi => ?_, fun i hi => ?_, fun i hi => ?_, fun i hi c hc => ?_, fun c hc => ?_⟩
  · rw [o 4 i f (by omega) (by omega)]; exact h.x1 hi h1 h2
  · unfold tkE
    rw [o 3 i 0 (by omega) (by omega), o 3 i 1 (by omega) (by omega), o 3 i 2 (by omega) (by omega), o 3 i 3 (by omega) (by omega)]
    exact h.x2 hi
  · unfold bdE
    rw [o 3 (3 + i) 0 (by omega) (by omega), o 3 (3 + i) 8 (by omega) (by omega), o 3 (3 + i) 5 (by omega) (by omega), o 3 (3 + i) 4 (by omega) (by omega), o 3 (3 + i) 3 (by omega) (by omega), o 3 (3 + i) 6 (by omega) (by omega), o 0 0 0 (by omega) (by omega)]
    exact h.x3 hi
  · unfold bkE
    rw [o 2 i 3 (by omega) (by omega), o 2 i 4 (by omega) (by omega)]
    exact h.x4 hi
  · rw [o 6 i c (by omega) (by omega)]; exact h.x5 hi hc
  · rw [o 7 0 c (by omega) (by omega)]; exact h.x6 hc
theorem E0.rd (h : E0 na nc g) (o : ∀ t i k, ¬ t = 6 → g2 t i k = g t i k) (h6 : ∀ i k, g2 6 i k = -1 ∨ g2 6 i k = g 6 i k) : E0 na nc g2 := by
  refine ⟨fun i hi f h1 h2 => ?_, fun i hi => ?_, fun i hi => ?_, fun i hi => ?_, fun i hi c hc => ?_, fun c hc => ?_⟩
  · rw [o 4 i f (by omega)]; exact h.x1 hi h1 h2
  · unfold tkE
    rw [o 3 i 0 (by omega), o 3 i 1 (by omega), o 3 i 2 (by omega), o 3 i 3 (by omega)]
    exact h.x2 hi
  · unfold bdE
    rw [o 3 (3 + i) 0 (by omega), o 3 (3 + i) 8 (by omega), o 3 (3 + i) 5 (by omega), o 3 (3 + i) 4 (by omega), o 3 (3 + i) 3 (by omega), o 3 (3 + i) 6 (by omega), o 0 0 0 (by omega)]
    exact h.x3 hi
  · unfold bkE
    rw [o 2 i 3 (by omega), o 2 i 4 (by omega)]
    exact h.x4 hi
  · rcases h6 i c with w | w
    · exact Or.inl w
    · rw [w]; exact h.x5 hi hc
  · rw [o 7 0 c (by omega)]; exact h.x6 hc
theorem forget_6 {i j k : Nat} : fX3_forgetReadings g i 6 j k = -1 ∨ fX3_forgetReadings g i 6 j k = g 6 j k := by
  unfold fX3_forgetReadings up
  split
  · exact Or.inl rfl
  · split
    · exact Or.inl rfl
    · split
      · exact Or.inl rfl
      · exact Or.inr rfl
theorem Qs.o6 (o : ∀ t i k, ¬ t = 6 → g2 t i k = g t i k) : Qs g2 = Qs g := Qs.cg (fun i _ => ⟨o 2 i 1 (by omega), o 2 i 3 (by omega)⟩) (fun j _ => ⟨o 3 j 0 (by omega), o 3 j 10 (by omega)⟩) (o 0 0 4 (by omega)) (o 0 0 5 (by omega))
theorem fill4 (g : Gd) (i b : Nat) : ∀ f, f < 6 → fX3_fillFrom g i b 4 (8 + i) f = fX1_keptOf (g 3 (3 + b) 4) (g 4 (3 + b) f)
  | 0, _ => by simp [fX3_fillFrom, up]
  | 1, _ => by simp [fX3_fillFrom, up]
  | 2, _ => by simp [fX3_fillFrom, up]
  | 3, _ => by simp [fX3_fillFrom, up]
  | 4, _ => by simp [fX3_fillFrom, up]
  | 5, _ => by simp [fX3_fillFrom, up]
  | n + 6, h => absurd h (by omega)
theorem fill30 (g : Gd) (i b : Nat) : fX3_fillFrom g i b 3 (8 + i) 0 = fX1_keptKilos (g 3 (3 + b) 4) (g 4 (3 + b) 0) (g 4 (3 + b) 1) (g 4 (3 + b) 2) (g 4 (3 + b) 3) (g 4 (3 + b) 4) (g 4 (3 + b) 5) := by simp [fX3_fillFrom, up]
theorem fill35 (g : Gd) (i b : Nat) : fX3_fillFrom g i b 3 (8 + i) 5 = g 3 (3 + b) 5 := by simp [fX3_fillFrom, up]
theorem fill310 (g : Gd) (i b : Nat) : fX3_fillFrom g i b 3 (8 + i) 10 = 1 := by simp [fX3_fillFrom, up]
theorem kept_b {mt k0 k1 k2 k3 k4 k5 K : Int32} {d : Int} (hd : d = if mt = 2 then 3 else 2) (h0 : 0 ≤ k0.toInt) (h1 : 0 ≤ k1.toInt) (h2 : 0 ≤ k2.toInt) (h3 : 0 ≤ k3.toInt) (h4 : 0 ≤ k4.toInt) (h5 : 0 ≤ k5.toInt) (hK : K.toInt = k0.toInt + k1.toInt + k2.toInt + k3.toInt + k4.toInt + k5.toInt) (hM : K.toInt ≤ 300) :
    (fX1_keptKilos mt k0 k1 k2 k3 k4 k5).toInt ≤ K.toInt / d ∧ K.toInt / d - 5 ≤ (fX1_keptKilos mt k0 k1 k2 k3 k4 k5).toInt ∧ (24 ≤ K.toInt → 0 < (fX1_keptKilos mt k0 k1 k2 k3 k4 k5).toInt) := by
  have e2 : (2 : Int32).toInt = 2 := rfl
  have e3 : (3 : Int32).toInt = 3 := rfl
  unfold fX1_keptKilos fX1_keptOf
  by_cases c : mt = 2
  · rw [if_pos c] at hd
    subst hd
    have d0 : (k0 / 3).toInt = k0.toInt / 3 := by rw [ti_div h0 (by rw [e3]; omega), e3]
    have d1 : (k1 / 3).toInt = k1.toInt / 3 := by rw [ti_div h1 (by rw [e3]; omega), e3]
    have d2 : (k2 / 3).toInt = k2.toInt / 3 := by rw [ti_div h2 (by rw [e3]; omega), e3]
    have d3 : (k3 / 3).toInt = k3.toInt / 3 := by rw [ti_div h3 (by rw [e3]; omega), e3]
    have d4 : (k4 / 3).toInt = k4.toInt / 3 := by rw [ti_div h4 (by rw [e3]; omega), e3]
    have d5 : (k5 / 3).toInt = k5.toInt / 3 := by rw [ti_div h5 (by rw [e3]; omega), e3]
    simp only [if_pos c]
    rw [s6 (M := 300) (by omega) (by omega) (by omega) (by omega) (by omega) (by omega) (by omega) (by omega), d0, d1, d2, d3, d4, d5]
    refine ⟨by omega, by omega, fun _ => by omega⟩
  · rw [if_neg c] at hd
    subst hd
    have d0 : (k0 / 2).toInt = k0.toInt / 2 := by rw [ti_div h0 (by rw [e2]; omega), e2]
    have d1 : (k1 / 2).toInt = k1.toInt / 2 := by rw [ti_div h1 (by rw [e2]; omega), e2]
    have d2 : (k2 / 2).toInt = k2.toInt / 2 := by rw [ti_div h2 (by rw [e2]; omega), e2]
    have d3 : (k3 / 2).toInt = k3.toInt / 2 := by rw [ti_div h3 (by rw [e2]; omega), e2]
    have d4 : (k4 / 2).toInt = k4.toInt / 2 := by rw [ti_div h4 (by rw [e2]; omega), e2]
    have d5 : (k5 / 2).toInt = k5.toInt / 2 := by rw [ti_div h5 (by rw [e2]; omega), e2]
    simp only [if_neg c]
    rw [s6 (M := 300) (by omega) (by omega) (by omega) (by omega) (by omega) (by omega) (by omega) (by omega), d0, d1, d2, d3, d4, d5]
    refine ⟨by omega, by omega, fun _ => by omega⟩
theorem grade_n {i : Nat} (h : ∀ k, k < 3 → g 6 i k = -1) : fX3_grade g i = -1 := by
  unfold fX3_grade
  rw [if_pos (h 0 (by decide)), if_pos (h 1 (by decide)), if_pos (h 2 (by decide))]
theorem o_store (I : IV na nb nc nd gn pr g) {b : Int32} (hb0 : 0 ≤ b.toInt) (hb : b.toInt < nc) (hk : ¬ g 3 (3 + b.toNatClampNeg) 0 < 24) (hn : nd < 12) : ∃ g2, fX6_store g b = (0, nI nd, g2) ∧ IV na nb nc (nd + 1) gn pr g2 ∧ g2 0 0 0 = g 0 0 0 ∧ (g2 3 (8 + nd) 0).toInt ≤ (g 3 (3 + b.toNatClampNeg) 0).toInt / (if g 3 (3 + b.toNatClampNeg) 4 = 2 then 3 else 2) ∧ (g 3 (3 + b.toNatClampNeg) 0).toInt / (if g 3 (3 + b.toNatClampNeg) 4 = 2 then 3 else 2) - 5 ≤ (g2 3 (8 + nd) 0).toInt ∧ g2 3 (8 + nd) 5 = g 3 (3 + b.toNatClampNeg) 5 ∧ g2 3 (3 + b.toNatClampNeg) 0 = 0 ∧ fX3_grade g2 nd = -1 := by
  have F := I.S.be hb0 hb
  have z := I.S.cnt
  have e0 : (0 : Int32).toInt = 0 := rfl
  have e24 : (24 : Int32).toInt = 24 := rfl
  have q : ∃ dl, SY na nb nc (nd + dl) (fX6_store g b).2.2 := by
    obtain ⟨m, h, hI, hT⟩ := I.S
    exact ⟨_, SY.of (P_store h hI hT b)⟩
  generalize hj : b.toNatClampNeg = j at *
  rw [lt_ti, e24] at hk
  have M := I.S.bed (i := j) (by omega)
  have f6 := M.f6
  have KB := kept_b (mt := g 3 (3 + j) 4) (K := g 3 (3 + j) 0) (d := if g 3 (3 + j) 4 = 2 then 3 else 2) rfl f6.1.1 f6.1.2.1 f6.1.2.2.1 f6.1.2.2.2.1 f6.1.2.2.2.2.1 f6.1.2.2.2.2.2 M.2.1 M.2.2.1
  generalize hkk : fX1_keptKilos (g 3 (3 + j) 4) (g 4 (3 + j) 0) (g 4 (3 + j) 1) (g 4 (3 + j) 2) (g 4 (3 + j) 3) (g 4 (3 + j) 4) (g 4 (3 + j) 5) = kk at KB
  have c10 : (g 0 0 10).toNatClampNeg = nd := by rw [I.S.d]; exact nI_clamp (by omega)
  let f1 : Gd := fX3_fillFrom g nd j
  have o1 : only3 g f1 (8 + nd) := fill_o3 g nd j
  let f2 : Gd := up f1 0 0 10 (f1 0 0 10 + 1)
  let f3 : Gd := up f2 0 0 5 (f1 0 0 5 + (f1 3 (3 + j) 0 - f1 3 (8 + nd) 0))
  let f4 : Gd := fX1_empty f3 j
  have o4 : only3 f3 f4 (3 + j) := emptyB_o f3 j
  have h3 : ∀ t i k, ¬ t = 0 → f3 t i k = f1 t i k := fun t i k h => by
    show up f2 0 0 5 _ t i k = _
    rw [up_ne (fun w => h w.1)]
    exact up_ne (fun w => h w.1)
  have e : fX6_store g b = (0, f4 0 0 10 - 1, f4) := by
    unfold fX6_store
    rw [hj, if_pos F.1, hkk, if_neg (fun w => by rw [w, e0] at KB; have := KB.2.2 (by omega); omega), if_pos (show g 0 0 10 < 12 by rw [I.S.d, lt_ti, ti_nI (by omega)]; show (nd : Int) < 12; omega), c10]
  have c4 : f4 0 0 10 = nI (nd + 1) := by
    rw [o4 0 0 10 (by omega)]
    show up f2 0 0 5 _ 0 0 10 = _
    rw [up_nk (by decide)]
    show up f1 0 0 10 (f1 0 0 10 + 1) 0 0 10 = _
    rw [up_eq, o1 0 0 10 (by omega), I.S.d]
    exact nI_1 _
  have k4 : f4 3 (8 + nd) 0 = kk := by rw [o4 3 (8 + nd) 0 (by omega), h3 3 (8 + nd) 0 (by omega), ← hkk]; exact fill30 g nd j
  have hbc := emptyB_cr (g := f3) (i := j)
  have hb3 : ∀ k, k < 11 → ¬ (k = 2 ∨ k = 8 ∨ k = 9 ∨ k = 10) → f4 3 (3 + j) k = 0 := fun k h1 h2 => by
    have q := hbc k (by omega)
    rw [cr_3 h1, if_neg h2] at q
    exact q
  have hS : SY na nb nc (nd + 1) f4 := by
    obtain ⟨dl, q⟩ := q
    rw [e] at q
    have qd := q.d
    have qc := q.cnt
    have e9 : nd + dl = nd + 1 := nI_inj (by omega) (by omega) (qd.symm.trans c4)
    rw [e9] at q
    exact q
  refine ⟨f4, by rw [e, c4, ← nI_1, Int32.add_sub_cancel], ⟨hS, ?_, ?_, ?_, ?_⟩, ?_, by rw [k4]; exact KB.1, by rw [k4]; exact KB.2.1, ?_, hb3 0 (by decide) (by decide), ?_⟩
  · have E1 : E0 na nc f1 := I.E.row z.2.2.1 o1 (fun f h1 h2 h3 => by
      rw [show f1 4 (8 + nd) f = _ from fill4 g nd j f h2, I.E.x1 (by omega) h1 h2]
      unfold fX1_keptOf; split <;> rfl) (fun i hi w => absurd w (by omega)) (fun i hi w => absurd w (by omega))
    have E3 : E0 na nc f3 := E0.up (E0.up E1 z.2.2.1 rfl) z.2.2.1 rfl
    refine E3.row z.2.2.1 o4 (fun f h1 h2 h3 => ?_) (fun i hi w => absurd w (by omega)) (fun i hi w => ?_)
    · have q := hbc (11 + f) (by omega)
      rw [cr_4 h2, if_neg (by omega)] at q
      exact q
    · have w : i = j := by omega
      subst w
      have hh := I.S.hr
      have Y := I.S.bedv F.2
      have e8 : f4 3 (3 + i) 8 = g 3 (3 + i) 8 := by
        have q := hbc 8 (by decide)
        rw [cr_3 (by decide), if_pos (by decide), cr_3 (by decide)] at q
        refine q.trans ?_
        rw [h3 3 (3 + i) 8 (by omega)]
        exact o1 3 (3 + i) 8 (by omega)
      have e00 : f4 0 0 0 = g 0 0 0 := by
        rw [o4 0 0 0 (by omega)]
        show up f2 0 0 5 _ 0 0 0 = _
        rw [up_nk (by decide)]
        show up f1 0 0 10 _ 0 0 0 = _
        rw [up_nk (by decide)]
        exact o1 0 0 0 (by omega)
      unfold bdE
      rw [hb3 0 (by decide) (by decide), hb3 5 (by decide) (by decide), hb3 4 (by decide) (by decide), hb3 3 (by decide) (by decide), hb3 6 (by decide) (by decide), e8, e00, e0]
      exact ⟨by omega, fun w => absurd rfl w, fun _ => ⟨rfl, rfl, rfl⟩, by omega, hh.1⟩
  · refine BAL.iff.mpr ?_
    have q1 : Qs f1 = Qs g + (sk f1 nd - sk g nd) := Qs.lt o1 hn
    have q2 : Qs f2 = Qs f1 := Qs.n rfl
    have q3 : Qs f3 = Qs f2 + ((f1 0 0 5 + (f1 3 (3 + j) 0 - f1 3 (8 + nd) 0)) - f2 0 0 5) := Qs.l5
    have q4 : Qs f4 = Qs f3 + (f4 3 (3 + j) 0 - f3 3 (3 + j) 0) := Qs.bd o4 (by omega)
    have e5 : f2 0 0 5 = f1 0 0 5 := up_nk (by decide)
    have w1 : sk f1 nd = f1 3 (8 + nd) 0 := by
      unfold sk
      rw [show f1 3 (8 + nd) 10 = 1 from fill310 g nd j]
      exact if_neg (by decide)
    have w0 : sk g nd = 0 := by
      unfold sk
      have k := I.S.lz hn (Nat.lt_irrefl nd) 10 (by decide)
      rw [cr_3 (by decide)] at k
      exact if_pos k
    have s1 : sm (evr f4) 6 = sm (evr g) 6 := ev_cg (fun k hk => by rw [o4 1 k 3 (by omega), h3 1 k 3 (by omega)]; exact o1 1 k 3 (by omega))
    rw [s1, q4, q3, q2, q1, w1, w0, e5, hb3 0 (by decide) (by decide), h3 3 (3 + j) 0 (by omega), BAL.iff.mp I.B]
    grind
  · refine COIN.o3 ?_ o4
    exact COIN.up (COIN.up (I.M.o3 o1) (by omega) (by omega)) (by omega) (by omega)
  · rw [o4 0 0 2 (by omega)]
    show up f2 0 0 5 _ 0 0 2 = _
    rw [up_nk (by decide)]
    show up f1 0 0 10 _ 0 0 2 = _
    rw [up_nk (by decide), o1 0 0 2 (by omega)]
    exact I.P
  · rw [o4 0 0 0 (by omega)]
    show up f2 0 0 5 _ 0 0 0 = _
    rw [up_nk (by decide)]
    show up f1 0 0 10 _ 0 0 0 = _
    rw [up_nk (by decide)]
    exact o1 0 0 0 (by omega)
  · rw [o4 3 (8 + nd) 5 (by omega), h3 3 (8 + nd) 5 (by omega)]
    exact fill35 g nd j
  · refine grade_n (fun k hk => ?_)
    rw [o4 6 nd k (by omega), h3 6 nd k (by omega), o1 6 nd k (by omega)]
    exact I.S.rz hn (Nat.lt_irrefl nd) hk
/-! blend -/
theorem take_q (g : Gd) (a c : Nat) (hac : a ≠ c) (v1 v2 v3 v4 : Int32) : fX4_addMix (up (up (up (up g 3 (8 + a) 3 v1) 3 (8 + a) 5 v2) 3 (8 + a) 7 v3) 3 (8 + a) 2 v4) (8 + a) (8 + c) 3 (8 + a) 0 = g 3 (8 + a) 0 + g 3 (8 + c) 0 ∧ fX4_addMix (up (up (up (up g 3 (8 + a) 3 v1) 3 (8 + a) 5 v2) 3 (8 + a) 7 v3) 3 (8 + a) 2 v4) (8 + a) (8 + c) 3 (8 + a) 10 = g 3 (8 + a) 10 ∧ ∀ f, f < 6 → fX4_addMix (up (up (up (up g 3 (8 + a) 3 v1) 3 (8 + a) 5 v2) 3 (8 + a) 7 v3) 3 (8 + a) 2 v4) (8 + a) (8 + c) 4 (8 + a) f = g 4 (8 + a) f + g 4 (8 + c) f := by
  have hne : 8 + c ≠ 8 + a := by omega
  have h0 : ∀ k, k ≠ 2 → k ≠ 3 → k ≠ 5 → k ≠ 7 → (up (up (up (up g 3 (8 + a) 3 v1) 3 (8 + a) 5 v2) 3 (8 + a) 7 v3) 3 (8 + a) 2 v4) 3 (8 + a) k = g 3 (8 + a) k := fun k n2 n3 n5 n7 => by
    rw [up_nk n2, up_nk n7, up_nk n5, up_nk n3]
  have hc : ∀ k, (up (up (up (up g 3 (8 + a) 3 v1) 3 (8 + a) 5 v2) 3 (8 + a) 7 v3) 3 (8 + a) 2 v4) 3 (8 + c) k = g 3 (8 + c) k := fun k => by
    rw [up_ni hne, up_ni hne, up_ni hne, up_ni hne]
  have h4 : ∀ j f, (up (up (up (up g 3 (8 + a) 3 v1) 3 (8 + a) 5 v2) 3 (8 + a) 7 v3) 3 (8 + a) 2 v4) 4 j f = g 4 j f := fun j f => by
    rw [up_nt (by decide), up_nt (by decide), up_nt (by decide), up_nt (by decide)]
  generalize (up (up (up (up g 3 (8 + a) 3 v1) 3 (8 + a) 5 v2) 3 (8 + a) 7 v3) 3 (8 + a) 2 v4) = h at *
  refine ⟨?_, ?_, fun f hf => ?_⟩
  · have q := addMix_cr h (8 + a) (8 + c) 0 (by decide)
    rw [cr_3 (by decide), cr_3 (by decide), cr_3 (by decide), if_neg (show ¬ (0 : Nat) = 1 by decide), if_pos (show (0 : Nat) = 0 ∨ 11 ≤ 0 by decide), h0 0 (by decide) (by decide) (by decide) (by decide), hc] at q
    exact q
  · have q := addMix_cr h (8 + a) (8 + c) 10 (by decide)
    rw [cr_3 (by decide), cr_3 (by decide), if_neg (show ¬ (10 : Nat) = 1 by decide), if_neg (show ¬ ((10 : Nat) = 0 ∨ 11 ≤ 10) by decide), h0 10 (by decide) (by decide) (by decide) (by decide)] at q
    exact q
  · have q := addMix_cr h (8 + a) (8 + c) (11 + f) (by omega)
    rw [cr_4 hf, if_neg (by omega), if_pos (by omega), cr_4 hf, cr_4 hf, h4, h4] at q
    exact q
theorem take_r (g : Gd) (a c : Nat) (hac : a ≠ c) : fX3_takeIn g a c 3 (8 + a) 0 = g 3 (8 + a) 0 + g 3 (8 + c) 0 ∧ fX3_takeIn g a c 3 (8 + a) 10 = g 3 (8 + a) 10 ∧ ∀ f, f < 6 → fX3_takeIn g a c 4 (8 + a) f = g 4 (8 + a) f + g 4 (8 + c) f := by
  unfold fX3_takeIn
  exact take_q g a c hac _ _ _ _
theorem forget_o {i : Nat} : ∀ t j k, ¬ t = 6 → fX3_forgetReadings g i t j k = g t j k := fun t j k h => forgetC_o h
theorem forget_at9 {i : Nat} : ∀ k, k < 3 → fX3_forgetReadings g i 6 i k = -1
  | 0, _ => by simp [fX3_forgetReadings, up]
  | 1, _ => by simp [fX3_forgetReadings, up]
  | 2, _ => by simp [fX3_forgetReadings, up]
  | n + 3, h => absurd h (by omega)
theorem can_9 {a c : Nat} (h : ¬ fX3_canBlendWith g a c = 0) : ¬ g 3 (8 + a) 10 = 0 ∧ ¬ g 3 (8 + c) 10 = 0 := by
  unfold fX3_canBlendWith at h
  by_cases c1 : g 3 (8 + a) 10 = 0
  · rw [if_pos c1] at h; exact absurd rfl h
  · by_cases c2 : g 3 (8 + c) 10 = 0
    · rw [if_neg c1, if_pos c2] at h; exact absurd rfl h
    · exact ⟨c1, c2⟩
theorem o_blend (I : IV na nb nc nd gn pr g) {x o : Int32} (hx0 : 0 ≤ x.toInt) (hx : x.toInt < nd) (ho0 : 0 ≤ o.toInt) (ho : o.toInt < nd) (hne : ¬ x = o) (hc : ¬ fX3_canBlendWith g x.toNatClampNeg o.toNatClampNeg = 0) : ∃ g2, fX6_blend g x o = (0, g 3 (8 + x.toNatClampNeg) 0 + g 3 (8 + o.toNatClampNeg) 0, g2) ∧ IV na nb nc nd gn pr g2 ∧ g2 0 0 0 = g 0 0 0 ∧ g2 3 (8 + o.toNatClampNeg) 10 = 0 ∧ fX3_grade g2 x.toNatClampNeg = -1 := by
  have F := I.S.lo hx0 hx
  have G := I.S.lo ho0 ho
  have z := I.S.cnt
  have hac : x.toNatClampNeg ≠ o.toNatClampNeg := fun w => hne (ti_eq (by have h1 := clamp_ti hx0; have h2 := clamp_ti ho0; omega))
  have q : SY na nb nc nd (fX6_blend g x o).2.2 := by
    obtain ⟨m, h, hI, hT⟩ := I.S
    exact SY.of (P_blend h hI hT x o)
  obtain ⟨i1, i2⟩ := can_9 hc
  have e : fX6_blend g x o = (0, (fX3_forgetReadings (fX4_clear (fX3_forgetReadings (fX3_takeIn g x.toNatClampNeg o.toNatClampNeg) x.toNatClampNeg) (8 + o.toNatClampNeg)) o.toNatClampNeg) 3 (8 + x.toNatClampNeg) 0, (up (fX3_forgetReadings (fX4_clear (fX3_forgetReadings (fX3_takeIn g x.toNatClampNeg o.toNatClampNeg) x.toNatClampNeg) (8 + o.toNatClampNeg)) o.toNatClampNeg) 3 (8 + o.toNatClampNeg) 10 0)) := by
    unfold fX6_blend
    rw [if_pos F.1, if_pos G.1, if_neg hne, if_neg hc]
  rw [e] at q
  generalize x.toNatClampNeg = a at *
  generalize o.toNatClampNeg = c at *
  let T1 : Gd := fX3_takeIn g a c
  let T2 : Gd := fX3_forgetReadings T1 a
  let T3 : Gd := fX4_clear T2 (8 + c)
  let T4 : Gd := fX3_forgetReadings T3 c
  let T5 : Gd := up T4 3 (8 + c) 10 0
  have o1 : only3 g T1 (8 + a) := takeIn_o g a c
  have o2 : ∀ t i k, ¬ t = 6 → T2 t i k = T1 t i k := forget_o
  have o3 : only3 T2 T3 (8 + c) := clear_o T2 (8 + c)
  have o4 : ∀ t i k, ¬ t = 6 → T4 t i k = T3 t i k := forget_o
  have o5 : only3 T4 T5 (8 + c) := only3_up
  have tr := take_r g a c hac
  have c3 := clear_cr T2 (8 + c)
  have t30 : T3 3 (8 + c) 0 = 0 := c3 0 (by decide)
  have kv : T4 3 (8 + a) 0 = g 3 (8 + a) 0 + g 3 (8 + c) 0 := by
    rw [o4 3 (8 + a) 0 (by decide), o3 3 (8 + a) 0 (by omega), o2 3 (8 + a) 0 (by decide)]
    exact tr.1
  have s0 : ∀ k, T5 0 0 k = g 0 0 k := fun k => by
    rw [o5 0 0 k (by omega), o4 0 0 k (by decide), o3 0 0 k (by omega), o2 0 0 k (by decide), o1 0 0 k (by omega)]
  have s1 : ∀ i k, T5 1 i k = g 1 i k := fun i k => by
    rw [o5 1 i k (by omega), o4 1 i k (by decide), o3 1 i k (by omega), o2 1 i k (by decide), o1 1 i k (by omega)]
  refine ⟨T5, ?_, ⟨q, ?_, ?_, ?_, ?_⟩, s0 0, up_eq _ _ _ _ _, ?_⟩
  · rw [e]
    show ((0 : Nat), T4 3 (8 + a) 0, T5) = _
    rw [kv]
  · have E1 : E0 na nc T1 := I.E.row z.2.2.1 o1 (fun f h1 h2 h3 => by
      rw [show T1 4 (8 + a) f = _ from tr.2.2 f h2, I.E.x1 (by omega) h1 h2, I.E.x1 (by omega) h1 h2]; rfl) (fun i hi w => absurd w (by omega)) (fun i hi w => absurd w (by omega))
    have E2 : E0 na nc T2 := E1.rd o2 (fun i k => forget_6)
    have E3 : E0 na nc T3 := E2.row z.2.2.1 o3 (fun f h1 h2 h3 => by
      have q := c3 (11 + f) (by omega)
      rw [cr_4 h2, if_pos (by omega)] at q
      exact q) (fun i hi w => absurd w (by omega)) (fun i hi w => absurd w (by omega))
    have E4 : E0 na nc T4 := E3.rd o4 (fun i k => forget_6)
    exact E0.up E4 z.2.2.1 (by simp [irr])
  · refine BAL.iff.mpr ?_
    have q1 : Qs T1 = Qs g + (sk T1 a - sk g a) := Qs.lt o1 (by omega)
    have q2 : Qs T2 = Qs T1 := Qs.o6 o2
    have q3 : Qs T3 = Qs T2 + (sk T3 c - sk T2 c) := Qs.lt o3 (by omega)
    have q4 : Qs T4 = Qs T3 := Qs.o6 o4
    have q5 : Qs T5 = Qs T4 + (sk T5 c - sk T4 c) := Qs.lt o5 (by omega)
    have w0 : sk g a = g 3 (8 + a) 0 := if_neg i1
    have w1 : sk T1 a = g 3 (8 + a) 0 + g 3 (8 + c) 0 := by
      unfold sk
      rw [show T1 3 (8 + a) 10 = _ from tr.2.1, if_neg i1]; exact tr.1
    have w2 : sk T2 c = g 3 (8 + c) 0 := by
      unfold sk
      rw [o2 3 (8 + c) 10 (by decide), o2 3 (8 + c) 0 (by decide), o1 3 (8 + c) 10 (by omega), o1 3 (8 + c) 0 (by omega)]
      exact if_neg i2
    have w3 : sk T3 c = 0 := by
      unfold sk
      rw [t30]
      split <;> rfl
    have w4 : sk T4 c = 0 := by
      unfold sk
      rw [o4 3 (8 + c) 0 (by decide), t30]
      split <;> rfl
    have w5 : sk T5 c = 0 := if_pos (up_eq _ _ _ _ _)
    have s9 : sm (evr T5) 6 = sm (evr g) 6 := ev_cg (fun k hk => s1 k 3)
    rw [s9, q5, q4, q3, q2, q1, w0, w1, w2, w3, w4, w5, BAL.iff.mp I.B]
    grind
  · exact I.M.cg (s0 1) (fun i _ => s1 i 2)
  · rw [s0 2]; exact I.P
  · refine grade_n (fun k hk => ?_)
    rw [o5 6 a k (by omega)]
    rcases (forget_6 (g := T3) (i := c) (j := a) (k := k)) with w | w
    · exact w
    · rw [show T4 6 a k = _ from w, o3 6 a k (by omega)]
      exact forget_at9 k hk
end SB
