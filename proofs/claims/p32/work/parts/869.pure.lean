/-! ===== the whole of what the pure side owes ===== -/
section PU
variable {na nb nc nd L : Nat} {xs : Nat → Int32} {g : Gd} {gn pr F B : Int32}
theorem int_le {a b : Nat} (ha : a < 1000) (hb : b < 1000) : nI a < nI b ↔ a < b := by
  rw [lt_ti, ti_nI (by omega), ti_nI (by omega)]; omega
theorem vd_ok {t : Nat} {sw tm x fm bk tk be lt : Int32} {K : Gd → Int32 → Int32 → Prop} (I : IV na nb nc nd gn pr g) (hh : (g 0 0 0).toInt ≤ 10000) (R : RG na nb nc nd fm bk tk be lt) (hK : KK na nc g K) : VD L xs g F B gn pr tm x fm bk tk be lt K sw := by
  unfold VD
  by_cases q0 : sw = 0
  · rw [if_pos q0]; exact c320 I R hK
  rw [if_neg q0]
  by_cases q1 : sw = 1
  · rw [if_pos q1]; exact c353 I hK
  rw [if_neg q1]
  by_cases q2 : sw = 2
  · rw [if_pos q2]; exact c383 I R hK
  rw [if_neg q2]
  by_cases q3 : sw = 3
  · rw [if_pos q3]; exact c383 I R hK
  rw [if_neg q3]
  by_cases q4 : sw = 4
  · rw [if_pos q4]; exact c383 I R hK
  rw [if_neg q4]
  by_cases q5 : sw = 5
  · rw [if_pos q5]; exact c523 I R hK
  rw [if_neg q5]
  by_cases q6 : sw = 6
  · rw [if_pos q6]; exact c523 I R hK
  rw [if_neg q6]
  by_cases q7 : sw = 7
  · rw [if_pos q7]; exact c608 I R hK
  rw [if_neg q7]
  by_cases q8 : sw = 8
  · rw [if_pos q8]; exact c608 I R hK
  rw [if_neg q8]
  by_cases q9 : sw = 9
  · rw [if_pos q9]; exact c731 I R hK
  rw [if_neg q9]
  by_cases q10 : sw = 10
  · rw [if_pos q10]; exact c819 I R hK
  rw [if_neg q10]
  by_cases q11 : sw = 11
  · rw [if_pos q11]; exact c850 I R hK
  rw [if_neg q11]
  by_cases q12 : sw = 12
  · rw [if_pos q12]; exact c911 I R hK
  rw [if_neg q12]
  by_cases q13 : sw = 13
  · rw [if_pos q13]; exact c1049 I R hK
  rw [if_neg q13]
  by_cases q14 : sw = 14
  · rw [if_pos q14]; exact c1086 I R hK
  rw [if_neg q14]
  by_cases q15 : sw = 15
  · rw [if_pos q15]; exact c1183 I R hK
  rw [if_neg q15]
  exact c1310 I hh hK
theorem vt_ok {t : Nat} (ht : t < 76) (hF : F = nI na) (hB : B = nI nc) (h1 : 1 ≤ na) (h2 : 1 ≤ nc) (I : IV na nb nc nd gn pr g) (hh : (g 0 0 0).toInt ≤ 40 * t) : VT L xs g F B gn pr (nI t) (JL F B (t + 1)) := by
  have z := I.S.cnt
  have e0 : (0 : Int32).toInt = 0 := rfl
  have e11 : (11 : Int32).toInt = 11 := rfl
  have e19 : (19 : Int32).toInt = 19 := rfl
  have nF : F.toInt = na := by rw [hF, ti_nI (by omega)]
  have nB : B.toInt = nc := by rw [hB, ti_nI (by omega)]
  have F0 : ¬ F = 0 := fun w => by rw [w, e0] at nF; omega
  have B0 : ¬ B = 0 := fun w => by rw [w, e0] at nB; omega
  have et : (nI t).toInt = t := ti_nI (by omega)
  have m19 := rem_b (a := nI t) (n := 19) (by omega) (by rw [e19]; omega)
  have h11 : 0 ≤ (11 + (nI t - nI t / 19 * 19)).toInt := by rw [ti_add (by rw [e11, e19] at *; omega) (by rw [e11, e19] at *; omega), e11]; omega
  have nb0 : (g 0 0 8).toInt = nb := by rw [I.S.b, ti_nI (by omega)]
  have nd0 : (g 0 0 10).toInt = nd := by rw [I.S.d, ti_nI (by omega)]
  have fin : ∀ (x f b t9 d l sw : Int32), RG na nb nc nd f b t9 d l → VD L xs g F B gn pr (nI t) x f b t9 d l (fun g2 gn2 pr2 => VC_T L xs g2 F B gn2 pr2 (nI t) (fun g3 => JL F B (t + 1) g3 gn2 pr2)) sw := fun x f b t9 d l sw R =>
    vd_ok (t := t) I (by omega) R (fun nb2 nd2 g2 gn2 pr2 I2 h => vc_T (t := t + 1) hF hB h1 h2 I2 (by omega))
  have pos : ∀ {v : Int32} {n : Nat}, v.toInt = n → ¬ v = 0 → 0 < v.toInt := fun {v n} h1 h2 => by
    have : ¬ v.toInt = 0 := fun w => h2 (ti_eq (by rw [e0]; exact w))
    omega
  have rf := fun v => bel_k v (n := F) (N := na) nF (by omega)
  have rt := fun v => bel_k v (n := 3) (N := 3) rfl (by decide)
  have rd := fun v => bel_k v (n := B) (N := nc) nB (by omega)
  refine ⟨h11, _, rfl, F0, _, rfl, I.S.iv, _, rd_m2, fun c => ⟨_, rfl, _, rfl, B0, _, rfl, _, rd_m4, fun c2 => ⟨_, rfl, ?_⟩, fun c2 => ⟨_, rd_m4, c2, _, rfl, ?_⟩⟩, fun c => ⟨_, rd_m2, c, _, rfl, _, rfl, B0, _, rfl, _, rd_m4, fun c2 => ⟨_, rfl, ?_⟩, fun c2 => ⟨_, rd_m4, c2, _, rfl, ?_⟩⟩⟩
  · exact fin _ _ _ _ _ _ _ ⟨rf _, Or.inl (by decide), rt _, rd _, Or.inl (by decide)⟩
  · have p := pos nd0 c2
    exact fin _ _ _ _ _ _ _ ⟨rf _, Or.inl (by decide), rt _, rd _, Or.inr (bel_k _ nd0 (by omega))⟩
  · have p := pos nb0 c
    exact fin _ _ _ _ _ _ _ ⟨rf _, Or.inr (bel_k _ nb0 (by omega)), rt _, rd _, Or.inl (by decide)⟩
  · have p := pos nb0 c
    have p2 := pos nd0 c2
    exact fin _ _ _ _ _ _ _ ⟨rf _, Or.inr (bel_k _ nb0 (by omega)), rt _, rd _, Or.inr (bel_k _ nd0 (by omega))⟩
/-- the digest is that of the state, not of the trial lot -/
theorem dg_again {m : Md} {S : Int64} : fX7_digest na nb nc nd 0 (u2 m 0 20 0) S = fX7_digest na nb nc nd 0 m S := by
  have e : u2 (u2 m 0 20 0) 0 20 0 = u2 m 0 20 0 := by
    funext r k
    unfold u2
    by_cases c : r = 0 ∧ k = 20
    · rw [if_pos c, if_pos c]
    · rw [if_neg c]
  unfold fX7_digest
  rw [e]
theorem dig_grid (g : Gd) : (fX6_digest g).2 = (fX6_bestBlend g).2 := rfl
theorem ve_ok (hF : F = nI na) (hB : B = nI nc) (I : IV na nb nc nd gn pr g) : VC_E L xs g F B gn pr := by
  have z := I.S.cnt
  obtain ⟨v, g2, e, I2, h2, -⟩ := o_best I
  have eg : (fX6_digest g).2 = g2 := by rw [dig_grid, e]
  have same : (fX6_digest g2).1 = (fX6_digest g).1 := by
    obtain ⟨m, h, hI, hT⟩ := I.S
    have q1 := P_digest (T := 0) h hI hT 0
    have q2 := P_digest (T := 0) q1.2.1 q1.2.2.1 q1.2.2.2 0
    rw [← eg, q2.1, q1.1]
    exact dg_again
  refine ⟨I.S.iv, (fX6_digest g).1, g2, by rw [← eg], I2.S.iv, hF.trans I2.S.a.symm, hB.trans I2.S.c.symm, _, rfl, fun w => ?_, fun _ => ⟨(fX6_digest g2).1, (fX6_digest g2).2, rfl, fun _ => trivial, fun w => w ?_⟩⟩
  · rw [hF, hB, isSo_1 I2.S I2.E I2.B] at w
    exact absurd w (by decide)
  · rw [same]
    simp [lg_cmp]
/-- farms are told -/
def JFm (F : Int32) (q : Nat) (g : Gd) : Prop := (∃ n : Nat, F = nI n ∧ 1 ≤ n ∧ n ≤ 6 ∧ q ≤ n) ∧ IV q 0 0 0 0 5 g ∧ g 0 0 0 = 0
/-- beds are told -/
def JBd (F B : Int32) (q : Nat) (g : Gd) : Prop := (∃ n b : Nat, F = nI n ∧ B = nI b ∧ 1 ≤ n ∧ 1 ≤ b ∧ b ≤ 4 ∧ q ≤ b ∧ IV n 0 q 0 0 5 g) ∧ g 0 0 0 = 0
theorem one_bel (v : Int32) {n : Int32} {N : Nat} (hn : n.toInt = N) (h0 : 0 < N) (hN : N ≤ 1000) : ∃ k : Nat, (1 : Int32) + fL_below v n = nI k ∧ 1 ≤ k ∧ k ≤ N := by
  have b := bel_1 v hn h0 hN (c := 1) (by decide)
  have e1 : (1 : Int32).toInt = 1 := rfl
  refine ⟨(fL_below v n).toInt.toNat + 1, ti_eq ?_, by omega, by omega⟩
  rw [b.1, e1, ti_nI (by omega)]
  omega
theorem ti_1k {c : Int32} {C q : Nat} (hc : c.toInt = C) (hC : C ≤ 100) (hq : q ≤ 100) : 0 ≤ (c + nI q).toInt := by
  have e : (nI q).toInt = q := ti_nI (by omega)
  rw [ti_add (by omega) (by omega)]; omega
theorem pure_all (L : Nat) (xs : Nat → Int32) : PURE L xs JFm JBd JL := by
  refine ⟨?_, ?_, ?_, ?_, ?_, ?_, ?_⟩
  · obtain ⟨k, e, h1, h2⟩ := one_bel (fL_cell L xs 0) (n := 6) (N := 6) rfl (by decide) (by decide)
    refine ⟨by decide, ?_, ⟨k, e, h1, h2, Nat.zero_le k⟩, IV_0, rfl⟩
    rw [e, ti_nI (by omega)]; omega
  · intro F q g hq ⟨⟨n, hF, h1, h2, h3⟩, I, hr⟩ hlt
    have hqn : q < n := by
      rw [hF] at hlt
      exact (int_le (by omega) (by omega)).mp hlt
    have b := bel_1 (fL_cell L xs (1 + nI q)) (n := 13) (N := 13) rfl (by decide) (by decide) (c := 10) (by decide)
    have e10 : (10 : Int32).toInt = 10 := rfl
    obtain ⟨g2, e, I2, h4⟩ := o_farm I (x := (10 : Int32) + fL_below (fL_cell L xs (1 + nI q)) 13) hq (by rw [b.1, e10]; omega)
    exact ⟨ti_1k (C := 1) rfl (by decide) (by omega), I.S.iv, _, _, e, fun _ => ⟨⟨n, hF, h1, h2, hqn⟩, I2, h4.trans hr⟩, fun w => w rfl⟩
  · intro F q g ⟨⟨n, hF, h1, h2, h3⟩, I, hr⟩ hle
    have hqn : q = n := by
      rw [hF] at hle
      have := (nle (by omega) (by omega)).mp hle
      omega
    subst hqn
    obtain ⟨k, e, k1, k2⟩ := one_bel (fL_cell L xs 7) (n := 4) (N := 4) rfl (by decide) (by decide)
    refine ⟨by decide, ?_, ⟨q, k, hF, e, h1, k1, k2, Nat.zero_le k, I⟩, hr⟩
    rw [e, ti_nI (by omega)]; omega
  · intro F B q g hq ⟨⟨n, k, hF, hB, h1, k1, k2, k3, I⟩, hr⟩ hlt
    have hqk : q < k := by
      rw [hB] at hlt
      exact (int_le (by omega) (by omega)).mp hlt
    have b := bel_1 (fL_cell L xs (8 + nI q)) (n := 36) (N := 36) rfl (by decide) (by decide) (c := 5) (by decide)
    have e5 : (5 : Int32).toInt = 5 := rfl
    obtain ⟨g2, e, I2, h4⟩ := o_bed I (x := (5 : Int32) + fL_below (fL_cell L xs (8 + nI q)) 36) (by omega) (by rw [b.1, e5]; omega)
    exact ⟨ti_1k (C := 8) rfl (by decide) (by omega), I.S.iv, _, _, e, fun _ => ⟨⟨n, k, hF, hB, h1, k1, k2, hqk, I2⟩, h4.trans hr⟩, fun w => w rfl⟩
  · intro F B q g ⟨⟨n, k, hF, hB, h1, k1, k2, k3, I⟩, hr⟩ hle
    have hqk : q = k := by
      rw [hB] at hle
      have := (nle (by omega) (by omega)).mp hle
      omega
    subst hqk
    exact ⟨n, 0, q, 0, hF, hB, h1, k1, I, by rw [hr]; decide⟩
  · intro F B t g gn pr ht ⟨na, nb, nc, nd, hF, hB, h1, h2, I, hh⟩
    exact vt_ok ht hF hB h1 h2 I hh
  · intro F B g gn pr ⟨na, nb, nc, nd, hF, hB, h1, h2, I, hh⟩
    exact ve_ok hF hB I
end PU
