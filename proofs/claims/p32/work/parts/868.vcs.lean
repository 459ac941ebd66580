/-! ===== what the law's walk asks, paid ===== -/
def mm0 : Md := fun r k => match r with
  | 0 => if k = 2 then 5 else 0
  | _ => 0
theorem mm0_ne {r k : Nat} (h : r ≠ 0) : mm0 r k = 0 := by
  match r, h with
  | 0, h => exact absurd rfl h
  | r + 1, _ => rfl
theorem cr_g09 {j k : Nat} : cr g0 j k = 0 := by
  unfold cr
  split
  · rfl
  · split <;> rfl
theorem mix_09 {r : Nat} {K : Int} (h : r ≠ 0) (hK : 0 ≤ K) : mixI mm0 r K := by
  have e : ∀ k, (mm0 r k).toInt = 0 := fun k => by rw [mm0_ne h]; rfl
  refine ⟨fun f _ => ?_, ?_, ?_, ?_, ?_⟩
  · rw [e, e]; omega
  · rw [e, e, e, e, e, e, e]; rfl
  · rw [e]; exact hK
  · rw [e]; omega
  · rw [e]; omega
theorem SY_0 : SY 0 0 0 0 g0 := by
  refine ⟨mm0, ⟨fun k _ => rfl, ⟨rfl, rfl, rfl, rfl⟩, fun i _ k _ => ?_, fun i _ k _ => ?_, fun i _ k _ => ?_, fun i _ k _ => ?_, fun i _ k _ => ?_, fun i _ k _ => ?_, fun k _ => rfl⟩, ⟨⟨by decide, by decide, by decide, by decide⟩, by decide, fun i h => absurd h (Nat.not_lt_zero i), fun i h => absurd h (Nat.not_lt_zero i), fun i h => ?_, fun i h => absurd h (Nat.not_lt_zero i), fun i h => absurd h (Nat.not_lt_zero i), by decide⟩, ⟨by decide, by decide⟩⟩
  · rw [if_neg (Nat.not_lt_zero i)]
    rfl
  · rw [if_neg (Nat.not_lt_zero i)]
    rfl
  · rw [cr_g09, mm0_ne (by omega)]
  · rw [cr_g09, if_neg (Nat.not_lt_zero i)]
  · rw [cr_g09, if_neg (Nat.not_lt_zero i)]
  · rw [if_neg (Nat.not_lt_zero i)]
    rfl
  · have e : ∀ k, mm0 (300 + i) k = 0 := fun k => mm0_ne (by omega)
    exact ⟨mix_09 (by omega) (by decide), ⟨by rw [e]; decide, by rw [e]; decide⟩, e 4, e 5, e 6, e 7, e 10⟩
theorem IV_0 : IV 0 0 0 0 0 5 g0 := by
  refine ⟨SY_0, ⟨fun j _ f _ _ => rfl, fun i _ _ => ⟨rfl, rfl, rfl⟩, fun i h => absurd h (Nat.not_lt_zero i), fun i _ => ⟨show 0 ≤ (0 : Int32).toInt by decide, show (0 : Int32).toInt ≤ 25 by decide, fun _ => show (0 : Int32).toInt ≤ 24 by decide, fun h => absurd (show (0 : Int32) = 3 from h) (by decide)⟩, fun i _ k _ => Or.inl rfl, fun k _ => rfl⟩, ?_, ?_, rfl⟩
  · show sm (evr g0) 6 = _
    decide
  · show g0 0 0 1 + sm (cns g0) 6 = 0
    decide
section VC
variable {na nb nc nd L : Nat} {xs : Nat → Int32} {g : Gd} {gn pr F B tm x fm bk tk be lt : Int32}
theorem o_farm (I : IV na 0 0 0 gn pr g) {x : Int32} (hn : na < 6) (hx : 10 ≤ x.toInt ∧ x.toInt ≤ 22) : ∃ g2, fX6_farm g x = (0, nI na, g2) ∧ IV (na + 1) 0 0 0 gn pr g2 ∧ g2 0 0 0 = g 0 0 0 := by
  have e10 : (10 : Int32).toInt = 10 := rfl
  have e22 : (22 : Int32).toInt = 22 := rfl
  have c7 : (g 0 0 7).toNatClampNeg = na := by rw [I.S.a]; exact nI_clamp (by omega)
  have e : fX6_farm g x = (0, (g 0 0 7 + 1) - 1, up (up g 1 na 0 x) 0 0 7 (g 0 0 7 + 1)) := by
    unfold fX6_farm
    rw [if_neg (show ¬ x < 10 by rw [lt_ti, e10]; omega), if_pos (show x ≤ 22 by rw [le_ti, e22]; omega), if_pos (show g 0 0 7 < 6 by rw [I.S.a, lt_ti, ti_nI (by omega)]; show (na : Int) < 6; omega), c7]
  have hS : SY (na + 1) 0 0 0 (up (up g 1 na 0 x) 0 0 7 (g 0 0 7 + 1)) := by
    obtain ⟨m, h, hI, hT⟩ := I.S
    have q := SY.of (P_farm h hI hT x)
    rw [e] at q
    generalize (fX7_farm na 0 0 0 0 m x).2.2 = dl at q
    have q8 := q.a
    have c8 : up (up g 1 na 0 x) 0 0 7 (g 0 0 7 + 1) 0 0 7 = nI (na + 1) := by
      rw [up_eq, h.a]; exact nI_1 _
    have qc := q.cnt
    have e9 : na + dl = na + 1 := nI_inj (by omega) (by omega) (q8.symm.trans c8)
    rw [e9] at q
    exact q
  refine ⟨_, by rw [e, b1a, I.S.a], ⟨hS, ?_, ?_, ?_, ?_⟩, ?_⟩
  · have E1 : E0 na 0 (up (up g 1 na 0 x) 0 0 7 (g 0 0 7 + 1)) := E0.up (E0.up I.E (by omega) rfl) (by omega) rfl
    exact ⟨fun j hj f h1 h2 => E1.x1 hj (by omega) h2, fun i hi => E1.x2 hi, fun i hi => absurd hi (Nat.not_lt_zero i), fun i hi => E1.x4 hi, fun i hi k hk => E1.x5 hi hk, fun k hk => E1.x6 hk⟩
  · exact BAL.up (BAL.up I.B (by simp [irb])) rfl
  · exact COIN.up (COIN.up I.M (by omega) (by omega)) (by omega) (by omega)
  · rw [up_nk (by decide), up_nt (by decide)]; exact I.P
  · rw [up_nk (by decide), up_nt (by decide)]
theorem o_bed (I : IV na 0 nc 0 gn pr g) {x : Int32} (hn : nc < 5) (hx : 5 ≤ x.toInt ∧ x.toInt ≤ 40) : ∃ g2, fX6_bed g x = (0, nI nc, g2) ∧ IV na 0 (nc + 1) 0 gn pr g2 ∧ g2 0 0 0 = g 0 0 0 := by
  have e5 : (5 : Int32).toInt = 5 := rfl
  have e40 : (40 : Int32).toInt = 40 := rfl
  have e0 : (0 : Int32).toInt = 0 := rfl
  have z := I.S.cnt
  have c7 : (g 0 0 9).toNatClampNeg = nc := by rw [I.S.c]; exact nI_clamp (by omega)
  have e : fX6_bed g x = (0, (g 0 0 9 + 1) - 1, up (up g 3 (3 + nc) 8 x) 0 0 9 (g 0 0 9 + 1)) := by
    unfold fX6_bed
    rw [if_neg (show ¬ x < 5 by rw [lt_ti, e5]; omega), if_pos (show x ≤ 40 by rw [le_ti, e40]; omega), if_pos (show g 0 0 9 < 5 by rw [I.S.c, lt_ti, ti_nI (by omega)]; show (nc : Int) < 5; omega), c7]
  have hS : SY na 0 (nc + 1) 0 (up (up g 3 (3 + nc) 8 x) 0 0 9 (g 0 0 9 + 1)) := by
    obtain ⟨m, h, hI, hT⟩ := I.S
    have q := SY.of (P_bed h hI hT x)
    rw [e] at q
    generalize (fX7_bed na 0 nc 0 0 m x).2.2 = dl at q
    have q8 := q.c
    have c8 : up (up g 3 (3 + nc) 8 x) 0 0 9 (g 0 0 9 + 1) 0 0 9 = nI (nc + 1) := by
      rw [up_eq, h.c]; exact nI_1 _
    have qc := q.cnt
    have e9 : nc + dl = nc + 1 := nI_inj (by omega) (by omega) (q8.symm.trans c8)
    rw [e9] at q
    exact q
  have Z := I.S.bz hn (Nat.lt_irrefl nc)
  have z3 : ∀ k, k < 11 → g 3 (3 + nc) k = 0 := fun k hk => (cr_3 hk).symm.trans (Z k (by omega))
  have o : only3 g (up g 3 (3 + nc) 8 x) (3 + nc) := only3_up
  have hh := I.S.hr
  have E1 : E0 na nc (up g 3 (3 + nc) 8 x) := I.E.row z.2.2.1 o (fun f h1 h2 h3 => by rw [up_nt (by decide)]; exact I.E.x1 h3 h1 h2) (fun i hi w => absurd w (by omega)) (fun i hi w => absurd w (by omega))
  have E2 : E0 na (nc + 1) (up g 3 (3 + nc) 8 x) := by
    refine ⟨fun j hj f h1 h2 => E1.x1 hj h1 h2, fun i hi => E1.x2 hi, fun i hi => ?_, fun i hi => E1.x4 hi, fun i hi k hk => E1.x5 hi hk, fun k hk => E1.x6 hk⟩
    by_cases w : i < nc
    · exact E1.x3 w
    · have w : i = nc := by omega
      subst w
      unfold bdE
      rw [up_nk (by decide), up_eq, up_nk (by decide), up_nk (by decide), up_nk (by decide), up_nk (by decide), up_nt (by decide), z3 0 (by decide), z3 5 (by decide), z3 4 (by decide), z3 3 (by decide), z3 6 (by decide), e0]
      exact ⟨by omega, fun w => absurd rfl w, fun _ => ⟨rfl, rfl, rfl⟩, by omega, hh.1⟩
  refine ⟨_, by rw [e, b1a, I.S.c], ⟨hS, E0.up E2 (by omega) rfl, BAL.up (BAL.up I.B (by simp [irb])) rfl, COIN.up (COIN.up I.M (by omega) (by omega)) (by omega) (by omega), ?_⟩, ?_⟩
  · rw [up_nk (by decide), up_nt (by decide)]; exact I.P
  · rw [up_nk (by decide), up_nt (by decide)]
/-- the loop's invariant -/
def JL (F B : Int32) (t : Nat) (g : Gd) (gn pr : Int32) : Prop := ∃ na nb nc nd : Nat, F = nI na ∧ B = nI nc ∧ 1 ≤ na ∧ 1 ≤ nc ∧ IV na nb nc nd gn pr g ∧ (g 0 0 0).toInt ≤ 40 * t
theorem vc_T {t : Nat} (hF : F = nI na) (hB : B = nI nc) (h1 : 1 ≤ na) (h2 : 1 ≤ nc) (I : IV na nb nc nd gn pr g) (hh : (g 0 0 0).toInt ≤ 40 * t) : VC_T L xs g F B gn pr tm (fun g3 => JL F B t g3 gn pr) := by
  have M : g 0 0 1 + sm (cns g) 6 = gn := I.M
  refine ⟨I.S.iv, _, rd_m6, _, rd_m15, fun _ => ⟨hF.trans I.S.a.symm, hB.trans I.S.c.symm, _, rfl, fun w => ?_, fun _ => ⟨na, nb, nc, nd, hF, hB, h1, h2, I, hh⟩⟩, fun w => w ?_⟩
  · rw [hF, hB, isSo_1 I.S I.E I.B] at w
    exact absurd w (by decide)
  · rw [coins_v I.S]; exact M
/-- what is drawn: in range -/
def RG (na nb nc nd : Nat) (fm bk tk be lt : Int32) : Prop := (0 ≤ fm.toInt ∧ fm.toInt < na) ∧ (bk < 0 ∨ (0 ≤ bk.toInt ∧ bk.toInt < nb)) ∧ (0 ≤ tk.toInt ∧ tk.toInt < (3 : Nat)) ∧ (0 ≤ be.toInt ∧ be.toInt < nc) ∧ (lt < 0 ∨ (0 ≤ lt.toInt ∧ lt.toInt < nd))
theorem RG.f {na nb nc nd : Nat} {fm bk tk be lt : Int32} (h : RG na nb nc nd fm bk tk be lt) : 0 ≤ fm.toInt ∧ fm.toInt < na := h.1
theorem RG.b {na nb nc nd : Nat} {fm bk tk be lt : Int32} (h : RG na nb nc nd fm bk tk be lt) : bk < 0 ∨ (0 ≤ bk.toInt ∧ bk.toInt < nb) := h.2.1
theorem RG.t {na nb nc nd : Nat} {fm bk tk be lt : Int32} (h : RG na nb nc nd fm bk tk be lt) : 0 ≤ tk.toInt ∧ tk.toInt < (3 : Nat) := h.2.2.1
theorem RG.d {na nb nc nd : Nat} {fm bk tk be lt : Int32} (h : RG na nb nc nd fm bk tk be lt) : 0 ≤ be.toInt ∧ be.toInt < nc := h.2.2.2.1
theorem RG.l {na nb nc nd : Nat} {fm bk tk be lt : Int32} (h : RG na nb nc nd fm bk tk be lt) : lt < 0 ∨ (0 ≤ lt.toInt ∧ lt.toInt < nd) := h.2.2.2.2
def KK (na nc : Nat) (g : Gd) (K : Gd → Int32 → Int32 → Prop) : Prop := ∀ (nb nd : Nat) (g2 : Gd) (gn2 pr2 : Int32), IV na nb nc nd gn2 pr2 g2 → (g2 0 0 0).toInt ≤ (g 0 0 0).toInt + 40 → K g2 gn2 pr2
variable {K : Gd → Int32 → Int32 → Prop}
theorem nlt0 {v : Int32} (h : 0 ≤ v.toInt) : ¬ v < 0 := by
  have e0 : (0 : Int32).toInt = 0 := rfl
  rw [lt_ti, e0]; omega
theorem bel_1 (v : Int32) {n : Int32} {N : Nat} (hn : n.toInt = N) (h0 : 0 < N) (hN : N ≤ 1000) {c : Int32} (hc : 0 ≤ c.toInt ∧ c.toInt ≤ 1000) : (c + fL_below v n).toInt = c.toInt + (fL_below v n).toInt ∧ 0 ≤ (fL_below v n).toInt ∧ (fL_below v n).toInt < N := by
  have b := bel_k v hn h0
  exact ⟨ti_add (by omega) (by omega), b⟩
theorem c320 (I : IV na nb nc nd gn pr g) (R : RG na nb nc nd fm bk tk be lt) (hK : KK na nc g K) : VC_C320 L xs g F B gn pr tm x fm bk tk be lt K := by
  have e1 : (1 : Int32).toInt = 1 := rfl
  have b := bel_k (x >>> (3 &&& 31)) (n := 40) (N := 40) rfl (by decide)
  have eb : (fL_below (x >>> (3 &&& 31)) 40 - 1).toInt = (fL_below (x >>> (3 &&& 31)) 40).toInt - 1 := by rw [ti_sub (by rw [e1]; omega) (by rw [e1]; omega), e1]
  obtain ⟨g2, e, I2, h2⟩ := o_label I R.f.1 R.f.2 (d := fL_below (x >>> (3 &&& 31)) 40 - 1) (by rw [eb]; omega)
  exact ⟨I.S.iv, _, rd_farm1 (I.S.fa R.f.1 R.f.2).1, _, _, e, fun _ => hK _ _ _ _ _ I2 (by rw [h2]; omega), fun w => w rfl⟩
theorem c353 (I : IV na nb nc nd gn pr g) (hK : KK na nc g K) : VC_C353 L xs g F B gn pr tm x fm bk tk be lt K := by
  have b := bel_1 (x >>> (3 &&& 31)) (n := 50) (N := 50) rfl (by decide) (by decide) (c := 1) (by decide)
  have e1 : (1 : Int32).toInt = 1 := rfl
  obtain ⟨g2, e, I2, h2⟩ := o_price I (x := (1 : Int32) + fL_below (x >>> (3 &&& 31)) 50) (by rw [b.1, e1]; omega)
  exact ⟨_, _, e, fun _ => hK _ _ _ _ _ I2 (by rw [h2]; omega), fun w => w rfl⟩
theorem c383 (I : IV na nb nc nd gn pr g) (R : RG na nb nc nd fm bk tk be lt) (hK : KK na nc g K) : VC_C383 L xs g F B gn pr tm x fm bk tk be lt K := by
  have z := I.S.cnt
  have e1 : (1 : Int32).toInt = 1 := rfl
  have e100 : (100 : Int32).toInt = 100 := rfl
  have F1 := (I.S.fa R.f.1 R.f.2).1
  refine ⟨I.S.iv, _, rd_m2, fun _ => hK _ _ _ _ _ I (by omega), fun c => ⟨_, rd_farm2 F1, _, rd_farm3 F1, ?_⟩⟩
  have hn : nb < 20 := by
    refine Nat.lt_of_le_of_ne z.2.1 (fun w => c ?_)
    rw [I.S.b, w]; rfl
  have b := bel_1 (x >>> (2 &&& 31)) (n := 200) (N := 200) rfl (by decide) (by decide) (c := 1) (by decide)
  have b2 := bel_k (x >>> (5 &&& 31)) (n := 70) (N := 70) rfl (by decide)
  have eb : ((100 : Int32) - fL_below (x >>> (5 &&& 31)) 70).toInt = 100 - (fL_below (x >>> (5 &&& 31)) 70).toInt := by rw [ti_sub (by rw [e100]; omega) (by rw [e100]; omega), e100]; rfl
  obtain ⟨g2, hd, c9, e, I2, h2, q1, q5, q2, q3, q4, w1, w2⟩ := o_bring I R.f.1 R.f.2 (kg := (1 : Int32) + fL_below (x >>> (2 &&& 31)) 200) (rp := (100 : Int32) - fL_below (x >>> (5 &&& 31)) 70) (by rw [b.1, e1]; omega) (by rw [eb]; omega) hn
  have B2 := I2.S.bk (k := nb) (by omega)
  have F2 := (I2.S.fa R.f.1 R.f.2).1
  have fin := hK _ _ _ _ _ I2 (by rw [h2]; omega)
  refine ⟨_, _, e, I2.S.iv, _, rd_bask1 B2.1, _, rd_farm2 F2, fun _ => ⟨_, rd_farm3 F2, fun _ => ⟨_, rd_bask5 B2.1, _, rd_farm1 F2, _, rd_m0, fun c1 => ⟨fun _ => fin, fun w => w ?_⟩, fun c1 => ⟨fun _ => fin, fun w => w ?_⟩⟩, fun w => w ?_⟩, fun w => w ?_⟩
  · rw [B2.2, q5, if_pos (w1 (by rw [← q4, ← h2]; exact c1))]
  · rw [B2.2, q5, w2 (by rw [← q4, ← h2]; exact c1)]; rfl
  · rw [B2.2, q1, q3]
  · rw [B2.2, q1, q2]
theorem c523 (I : IV na nb nc nd gn pr g) (R : RG na nb nc nd fm bk tk be lt) (hK : KK na nc g K) : VC_C523 L xs g F B gn pr tm x fm bk tk be lt K := by
  have e0 : (0 : Int32).toInt = 0 := rfl
  refine ⟨fun c => ?_, fun _ => hK _ _ _ _ _ I (by omega)⟩
  rw [le_ti, e0] at c
  have hb := R.b.resolve_left (nlt0 c)
  obtain ⟨h1, v, g2, e, I2, h2, h3⟩ := o_pulp I hb.1 hb.2 R.t.1 R.t.2
  have T1 := (tk_at (g := g) R.t.1 R.t.2).1
  have T2 := (tk_at (g := g2) R.t.1 R.t.2).1
  have B2 := (I2.S.ba hb.1 hb.2).1
  have fin := hK _ _ _ _ _ I2 (by rw [h2]; omega)
  refine ⟨_, rd_tank0 T1, I.S.iv, h1, v, g2, e, fun w => ?_, fun w => ?_⟩
  · rcases h3 with ⟨w1, _⟩ | ⟨w1, w2, w3, w4⟩
    · rw [w1] at w; exact absurd w (by decide)
    · exact ⟨I2.S.iv, _, rd_bask1 B2, fun _ => ⟨fun q => w3 q, fun _ => ⟨_, rd_bask3 B2, fun _ => fin, fun q => q w4⟩⟩, fun q => q w2⟩
  · rcases h3 with ⟨w1, w2⟩ | ⟨w1, _⟩
    · exact ⟨_, rd_tank0 T2, fun _ => fin, fun q => q (by rw [w2])⟩
    · exact absurd w1 w
theorem c608h (I : IV na nb nc nd gn pr g) (R : RG na nb nc nd fm bk tk be lt) (hK : KK na nc g K) (ho : Int32) : ((fX6_wash g tk be ho).1 = 0 ∨ (fX6_wash g tk be ho).1 = 3) ∧ ∃ (v : Int32) (g2 : Gd), fL_wash g tk be ho = (v, g2) ∧ IvC g2 ∧ K g2 gn pr ∧ fX6_bedAt g2 be = 0 ∧ fX6_tankAt g2 tk = 0 ∧ ((¬ 0 ≤ v ∧ g2 = g) ∨ (0 ≤ v ∧ v = g 3 tk.toNatClampNeg 0 ∧ g 3 (3 + be.toNatClampNeg) 0 = 0 ∧ g2 3 (3 + be.toNatClampNeg) 0 = v ∧ g2 3 tk.toNatClampNeg 0 = 0 ∧ g2 3 (3 + be.toNatClampNeg) 4 ≤ 1)) := by
  obtain ⟨h1, v, g2, e, I2, h2, h3⟩ := o_wash I (ho := ho) R.t.1 R.t.2 R.d.1 R.d.2
  refine ⟨h1, v, g2, e, I2.S.iv, hK _ _ _ _ _ I2 (by rw [h2]; omega), (I2.S.be R.d.1 R.d.2).1, (tk_at (g := g2) R.t.1 R.t.2).1, ?_⟩
  rcases h3 with ⟨w1, w2⟩ | w
  · exact Or.inl ⟨by rw [w1]; decide, w2⟩
  · exact Or.inr w
theorem c608 (I : IV na nb nc nd gn pr g) (R : RG na nb nc nd fm bk tk be lt) (hK : KK na nc g K) : VC_C608 L xs g F B gn pr tm x fm bk tk be lt K := by
  have T1 := (tk_at (g := g) R.t.1 R.t.2).1
  have B1 := (I.S.be R.d.1 R.d.2).1
  refine ⟨_, rd_tank0 T1, I.S.iv, _, rd_bed2 B1, fun _ => ?_, fun _ => ?_⟩
  · obtain ⟨h1, v, g2, e, iv, fin, B2, T2, h3⟩ := c608h I R hK 1
    refine ⟨h1, v, g2, e, fun w => ?_, fun w => ?_⟩
    · rcases h3 with ⟨w1, _⟩ | ⟨w1, w2, w3, w4, w5, w6⟩
      · exact absurd w w1
      · exact ⟨fun _ => ⟨fun _ => ⟨iv, _, rd_bed2 B2, fun _ => ⟨_, rd_tank0 T2, fun _ => ⟨_, rd_bed3 B2, fun _ => fin, fun q => q w6⟩, fun q => q w5⟩, fun q => q (w4.trans w2)⟩, fun q => q w3⟩, fun q => q w2⟩
    · rcases h3 with ⟨w1, w2⟩ | ⟨w1, _⟩
      · exact ⟨_, rd_tank0 T2, fun _ => ⟨iv, _, rd_bed2 B2, fun _ => fin, fun q => q (by rw [w2])⟩, fun q => q (by rw [w2])⟩
      · exact absurd w1 w
  · obtain ⟨h1, v, g2, e, iv, fin, B2, T2, h3⟩ := c608h I R hK 0
    refine ⟨h1, v, g2, e, fun w => ?_, fun w => ?_⟩
    · rcases h3 with ⟨w1, _⟩ | ⟨w1, w2, w3, w4, w5, w6⟩
      · exact absurd w w1
      · exact ⟨fun _ => ⟨fun _ => ⟨iv, _, rd_bed2 B2, fun _ => ⟨_, rd_tank0 T2, fun _ => ⟨_, rd_bed3 B2, fun _ => fin, fun q => q w6⟩, fun q => q w5⟩, fun q => q (w4.trans w2)⟩, fun q => q w3⟩, fun q => q w2⟩
    · rcases h3 with ⟨w1, w2⟩ | ⟨w1, _⟩
      · exact ⟨_, rd_tank0 T2, fun _ => ⟨iv, _, rd_bed2 B2, fun _ => fin, fun q => q (by rw [w2])⟩, fun q => q (by rw [w2])⟩
      · exact absurd w1 w
theorem c731 (I : IV na nb nc nd gn pr g) (R : RG na nb nc nd fm bk tk be lt) (hK : KK na nc g K) : VC_C731 L xs g F B gn pr tm x fm bk tk be lt K := by
  have e0 : (0 : Int32).toInt = 0 := rfl
  refine ⟨fun c => ?_, fun _ => hK _ _ _ _ _ I (by omega)⟩
  rw [le_ti, e0] at c
  have hb := R.b.resolve_left (nlt0 c)
  obtain ⟨h1, v, g2, e, I2, h2, h3⟩ := o_whole I hb.1 hb.2 R.d.1 R.d.2
  have B1 := (I.S.be R.d.1 R.d.2).1
  have B2 := (I2.S.be R.d.1 R.d.2).1
  have K2 := (I2.S.ba hb.1 hb.2).1
  have fin := hK _ _ _ _ _ I2 (by rw [h2]; omega)
  refine ⟨I.S.iv, _, rd_bed2 B1, h1, v, g2, e, fun w => ?_, fun w => ?_⟩
  · rcases h3 with ⟨w1, _⟩ | ⟨w1, w2, w3, w4, w5⟩
    · rw [w1] at w; exact absurd w (by decide)
    · exact ⟨fun _ => ⟨I2.S.iv, _, rd_bed2 B2, fun _ => ⟨_, rd_bask3 K2, fun _ => ⟨_, rd_bed3 B2, fun _ => fin, fun q => q w5⟩, fun q => q w4⟩, fun q => q w3⟩, fun q => q w2⟩
  · rcases h3 with ⟨w1, w2⟩ | ⟨w1, _⟩
    · exact ⟨I2.S.iv, _, rd_bed2 B2, fun _ => fin, fun q => q (by rw [w2])⟩
    · exact absurd w1 w
theorem c819 (I : IV na nb nc nd gn pr g) (R : RG na nb nc nd fm bk tk be lt) (hK : KK na nc g K) : VC_C819 L xs g F B gn pr tm x fm bk tk be lt K := by
  have B1 := (I.S.be R.d.1 R.d.2).1
  refine ⟨I.S.iv, _, rd_bed2 B1, fun _ => hK _ _ _ _ _ I (by omega), fun c => ?_⟩
  obtain ⟨g2, e, n0, I2, h2, h3⟩ := o_turn I R.d.1 R.d.2 c
  have B2 := (I2.S.be R.d.1 R.d.2).1
  exact ⟨_, _, e, fun q => n0 q, fun _ => ⟨I2.S.iv, _, rd_bed5 B2, fun _ => hK _ _ _ _ _ I2 (by rw [h2]; omega), fun q => q h3⟩⟩
theorem c850 (I : IV na nb nc nd gn pr g) (R : RG na nb nc nd fm bk tk be lt) (hK : KK na nc g K) : VC_C850 L xs g F B gn pr tm x fm bk tk be lt K := by
  have B1 := I.S.be R.d.1 R.d.2
  have cv := (I.S.bedv B1.2).2.1
  refine ⟨I.S.iv, _, rd_bed1 B1.1, fun c => ?_, fun c => ?_⟩
  · obtain ⟨g2, e, I2, h2, h3⟩ := o_cover I R.d.1 R.d.2 (on := 0) (Or.inl rfl)
    have B2 := (I2.S.be R.d.1 R.d.2).1
    have c9 : g 3 (3 + be.toNatClampNeg) 9 = 1 := by
      rcases cv with w | w
      · rw [if_pos w] at c; exact absurd c (by decide)
      · exact w
    exact ⟨_, _, e, fun _ => ⟨I2.S.iv, _, rd_bed1 B2, fun _ => hK _ _ _ _ _ I2 (by rw [h2]; omega), fun q => q (by rw [h3]; rfl)⟩, fun q => q c9⟩
  · obtain ⟨g2, e, I2, h2, h3⟩ := o_cover I R.d.1 R.d.2 (on := 1) (Or.inr rfl)
    have B2 := (I2.S.be R.d.1 R.d.2).1
    have c9 : g 3 (3 + be.toNatClampNeg) 9 = 0 := by
      rcases cv with w | w
      · exact w
      · rw [w] at c; exact absurd (by decide) c
    exact ⟨_, _, e, fun _ => ⟨I2.S.iv, _, rd_bed1 B2, fun _ => hK _ _ _ _ _ I2 (by rw [h2]; omega), fun q => q (by rw [h3]; rfl)⟩, fun q => q c9⟩
theorem c911h {g2 : Gd} {mt K9 v9 d : Int32} {dz : Int} (hd : d.toInt = dz) (hz : dz = 2 ∨ dz = 3) (h0 : 0 ≤ K9.toInt ∧ K9.toInt ≤ 300) (h1 : v9.toInt ≤ K9.toInt / dz) (h2 : K9.toInt / dz - 5 ≤ v9.toInt) : ¬ K9 / d < v9 ∧ ¬ v9 < K9 / d - 5 := by
  have e5 : (5 : Int32).toInt = 5 := rfl
  have ed : (K9 / d).toInt = K9.toInt / dz := by rw [ti_div h0.1 (by omega), hd]
  have q : 0 ≤ K9.toInt / dz ∧ K9.toInt / dz ≤ 300 := by rcases hz with rfl | rfl <;> omega
  rw [lt_ti, lt_ti, ti_sub (by rw [ed, e5]; omega) (by rw [ed, e5]; omega), ed, e5]
  omega
theorem c911 (I : IV na nb nc nd gn pr g) (R : RG na nb nc nd fm bk tk be lt) (hK : KK na nc g K) : VC_C911 L xs g F B gn pr tm x fm bk tk be lt K := by
  have z := I.S.cnt
  have B1 := I.S.be R.d.1 R.d.2
  have M := I.S.bed (i := be.toNatClampNeg) (by omega)
  have f6 := M.f6
  refine ⟨I.S.iv, _, rd_bed2 B1.1, fun _ => hK _ _ _ _ _ I (by omega), fun c => ⟨_, rd_m4, fun _ => hK _ _ _ _ _ I (by omega), fun c2 => ⟨_, rd_bed2 B1.1, _, rd_bed3 B1.1, ?_⟩⟩⟩
  have hn : nd < 12 := by
    refine Nat.lt_of_le_of_ne z.2.2.2 (fun w => c2 ?_)
    rw [I.S.d, w]; rfl
  obtain ⟨g2, e, I2, h2, k1, k2, k5, kb, kg⟩ := o_store I R.d.1 R.d.2 c hn
  have L2 := I2.S.lk (k := nd) (by omega)
  have B2 := (I2.S.be R.d.1 R.d.2).1
  have fin := hK _ _ _ _ _ I2 (by rw [h2]; omega)
  have v0 : fX6_ofLot g2 (nI nd) 0 = (0, g2 3 (8 + nd) 0) := by rw [rd_lot0 L2.1, L2.2]
  have v7 : fX6_ofLot g2 (nI nd) 7 = (0, g2 3 (8 + nd) 5) := by rw [rd_lot7 L2.1, L2.2]
  have v9 : fX6_ofLot g2 (nI nd) 9 = (0, fX3_grade g2 nd) := by rw [rd_lot9 L2.1, L2.2]
  refine ⟨fun m => ?_, fun m => ?_⟩
  · rw [if_pos m] at k1 k2
    have q := c911h (g2 := g2) (mt := 0) (K9 := g 3 (3 + be.toNatClampNeg) 0) (v9 := g2 3 (8 + nd) 0) (d := 3) (dz := 3) rfl (by omega) ⟨f6.2, M.2.2.1⟩ k1 k2
    exact ⟨_, rd_bed4 B1.1, _, _, e, I2.S.iv, _, v0, fun w => q.1 w, fun _ => ⟨_, v0, fun w => q.2 w, fun _ => ⟨_, v7, fun _ => ⟨_, rd_bed2 B2, fun _ => ⟨_, v9, fun _ => fin, fun w => w kg⟩, fun w => w kb⟩, fun w => w k5⟩⟩⟩
  · rw [if_neg m] at k1 k2
    have q := c911h (g2 := g2) (mt := 0) (K9 := g 3 (3 + be.toNatClampNeg) 0) (v9 := g2 3 (8 + nd) 0) (d := 2) (dz := 2) rfl (by omega) ⟨f6.2, M.2.2.1⟩ k1 k2
    exact ⟨_, rd_bed4 B1.1, _, _, e, I2.S.iv, _, v0, fun w => q.1 w, fun _ => ⟨_, v0, fun w => q.2 w, fun _ => ⟨_, v7, fun _ => ⟨_, rd_bed2 B2, fun _ => ⟨_, v9, fun _ => fin, fun w => w kg⟩, fun w => w kb⟩, fun w => w k5⟩⟩⟩
theorem c1049 (I : IV na nb nc nd gn pr g) (R : RG na nb nc nd fm bk tk be lt) (hK : KK na nc g K) : VC_C1049 L xs g F B gn pr tm x fm bk tk be lt K := by
  refine ⟨fun _ => hK _ _ _ _ _ I (by omega), fun c => ?_⟩
  have hl := R.l.resolve_left c
  have L1 := I.S.lo hl.1 hl.2
  refine ⟨I.S.iv, _, rd_lot2 L1.1, fun c1 => ?_, fun _ => hK _ _ _ _ _ I (by omega)⟩
  have hi : ¬ g 3 (8 + lt.toNatClampNeg) 10 = 0 := fun w => by rw [if_pos w] at c1; exact absurd c1 (by decide)
  obtain ⟨g2, e, I2, h2, h3, h4⟩ := o_cup I hl.1 hl.2 R.t.1 R.t.2 hi
  have L2 := (I2.S.lo hl.1 hl.2).1
  have e0 : (0 : Int32).toInt = 0 := rfl
  have kv := I.S.lotv L1.2
  have kp := kv.2.2.2.2.2.2 (kv.2.2.2.2.2.1.resolve_left hi)
  refine ⟨_, _, e, I2.S.iv, _, rd_lot10 L2, fun _ => hK _ _ _ _ _ I2 (by rw [h2]; omega), fun w => w ?_⟩
  rw [h3, if_neg (fun w => by rw [w, e0] at kp; omega), h4]
theorem c1086 (I : IV na nb nc nd gn pr g) (R : RG na nb nc nd fm bk tk be lt) (hK : KK na nc g K) : VC_C1086 L xs g F B gn pr tm x fm bk tk be lt K := by
  obtain ⟨v, g2, e, I2, h2, h3⟩ := o_best I
  have fin := hK _ _ _ _ _ I2 (by rw [h2]; omega)
  refine ⟨I.S.iv, v, g2, e, fun _ => fin, fun c => ⟨fun _ => fin, fun _ => ?_⟩⟩
  obtain ⟨a, b, h4, h5, e1, e2, h6⟩ := h3.resolve_left c
  have z := I.S.cnt
  have A1 := I2.S.lk (k := a) (by omega)
  have B1 := I2.S.lk (k := b) h5
  have ia : (nI a).toInt = a := ti_nI (by omega)
  have ib : (nI b).toInt = b := ti_nI (by omega)
  obtain ⟨g3, e3, I3, h7, h8, h9⟩ := o_blend I2 (x := nI a) (o := nI b) (by omega) (by omega) (by omega) (by omega) (fun w => by have := congrArg Int32.toInt w; omega) (by rw [A1.2, B1.2]; exact h6)
  have A3 := (I3.S.lk (k := a) (by omega)).1
  have B3 := (I3.S.lk (k := b) h5).1
  rw [e2, e1]
  exact ⟨I2.S.iv, _, rd_lot0 A1.1, _, rd_lot0 B1.1, _, _, e3, fun _ => ⟨I3.S.iv, _, rd_lot2 B3, fun _ => ⟨_, rd_lot9 A3, fun _ => hK _ _ _ _ _ I3 (by rw [h7, h2]; omega), fun w => w h9⟩, fun w => w (by rw [h8]; rfl)⟩, fun w => w rfl⟩
theorem c1183 (I : IV na nb nc nd gn pr g) (R : RG na nb nc nd fm bk tk be lt) (hK : KK na nc g K) : VC_C1183 L xs g F B gn pr tm x fm bk tk be lt K := by
  have e0 : (0 : Int32).toInt = 0 := rfl
  have e1 : (1 : Int32).toInt = 1 := rfl
  refine ⟨fun _ => hK _ _ _ _ _ I (by omega), fun c => ?_⟩
  have hl := R.l.resolve_left c
  have L1 := I.S.lo hl.1 hl.2
  refine ⟨I.S.iv, _, rd_lot2 L1.1, fun _ => hK _ _ _ _ _ I (by omega), fun c1 => ⟨_, rd_lot9 L1.1, fun c2 => ?_, fun _ => hK _ _ _ _ _ I (by omega)⟩⟩
  have hi : ¬ g 3 (8 + lt.toNatClampNeg) 10 = 0 := fun w => c1 (if_pos w)
  have hg : ¬ fX3_grade g lt.toNatClampNeg = -1 := fun w => by rw [w] at c2; exact absurd c2 (by decide)
  have b := bel_1 (x >>> (3 &&& 31)) (n := 200) (N := 200) rfl (by decide) (by decide) (c := 1) (by decide)
  obtain ⟨v, g2, e, I2, h2, h3, h4⟩ := o_sell I (each := (1 : Int32) + fL_below (x >>> (3 &&& 31)) 200) hl.1 hl.2 (by rw [b.1, e1]; omega) hi hg
  have L2 := (I2.S.lo hl.1 hl.2).1
  refine ⟨_, rd_lot0 L1.1, _, rd_lot9 L1.1, fun c3 => ?_, fun c3 => ?_⟩
  · rw [if_pos c3] at I2
    refine ⟨_, rd_m6, _, _, e, I2.S.iv, _, rd_m6, fun _ => ⟨_, rd_lot2 L2, fun _ => ?_, fun w => w (by rw [h4]; rfl)⟩, fun w => w h3⟩
    rw [Int32.add_zero]
    exact hK _ _ _ _ _ I2 (by rw [h2]; omega)
  · rw [if_neg c3] at I2
    exact ⟨_, rd_lot3 L1.1, _, rd_m6, _, _, e, I2.S.iv, _, rd_m6, fun _ => ⟨_, rd_lot2 L2, fun _ => hK _ _ _ _ _ I2 (by rw [h2]; omega), fun w => w (by rw [h4]; rfl)⟩, fun w => w h3⟩
theorem c1310 (I : IV na nb nc nd gn pr g) (hh : (g 0 0 0).toInt ≤ 10000) (hK : KK na nc g K) : VC_C1310 L xs g F B gn pr tm x fm bk tk be lt K := by
  have e1 : (1 : Int32).toInt = 1 := rfl
  have e0 : (0 : Int32).toInt = 0 := rfl
  have h0 := I.S.hr
  have b := bel_1 (x >>> (2 &&& 31)) (n := 40) (N := 40) rfl (by decide) (by decide) (c := 1) (by decide)
  have b2 := bel_k (x >>> (3 &&& 31)) (n := 41) (N := 41) rfl (by decide)
  have b3 := bel_k (x >>> (5 &&& 31)) (n := 21) (N := 21) rfl (by decide)
  have main : ∀ r : Int32, 0 ≤ r.toInt ∧ r.toInt ≤ 20 → ∃ (v : Int32) (g2 : Gd), fX6_pass g ((1 : Int32) + fL_below (x >>> (2 &&& 31)) 40) (fL_below (x >>> (3 &&& 31)) 41) r = (0, v, g2) ∧ ¬ v < 0 ∧ IvC g2 ∧ g2 0 0 0 = g 0 0 0 + ((1 : Int32) + fL_below (x >>> (2 &&& 31)) 40) ∧ K g2 gn pr := fun r hr => by
    obtain ⟨v, g2, e, h1, I2, h2⟩ := o_pass I (h := (1 : Int32) + fL_below (x >>> (2 &&& 31)) 40) (w := fL_below (x >>> (3 &&& 31)) 41) (r := r) (by rw [b.1, e1]; omega) (by omega) hr (by rw [b.1, e1]; omega)
    exact ⟨v, g2, e, h1, I2.S.iv, h2, hK _ _ _ _ _ I2 (by rw [h2, ti_add (by rw [b.1, e1]; omega) (by rw [b.1, e1]; omega), b.1, e1]; omega)⟩
  refine ⟨I.S.iv, _, rd_m0, fun _ => ?_, fun _ => ?_⟩
  · obtain ⟨v, g2, e, h1, iv, h2, fin⟩ := main (fL_below (x >>> (5 &&& 31)) 21) (by omega)
    exact ⟨v, g2, e, fun w => h1 w, fun _ => ⟨iv, _, rd_m0, fun _ => fin, fun w => w h2⟩⟩
  · obtain ⟨v, g2, e, h1, iv, h2, fin⟩ := main 0 (by rw [e0]; omega)
    exact ⟨v, g2, e, fun w => h1 w, fun _ => ⟨iv, _, rd_m0, fun _ => fin, fun w => w h2⟩⟩
end VC
