/-! ===== bestBlend and sell keep the invariant ===== -/
section BS
variable {na nb nc nd : Nat} {g g1 g2 : Gd} {gn pr : Int32}
theorem mx40 (s : Int32) : 40 ≤ (if 40 < s then s else (40 : Int32)).toInt := by
  have e40 : (40 : Int32).toInt = 40 := rfl
  split
  · rename_i c; rw [lt_ti, e40] at c; omega
  · rw [e40]; omega
theorem score_40 (g : Gd) (i : Nat) : 40 ≤ (fX3_score g i).toInt := by
  unfold fX3_score
  split
  · exact mx40 _
  · split
    · exact mx40 _
    · exact mx40 _
theorem can_o {a c : Nat} (o : only3 g g1 20) (ha : a < 12) (hc : c < 12) : fX3_canBlendWith g1 a c = fX3_canBlendWith g a c := by
  unfold fX3_canBlendWith
  rw [o 3 (8 + a) 10 (by omega), o 3 (8 + c) 10 (by omega), o 3 (8 + a) 4 (by omega), o 3 (8 + c) 4 (by omega)]
theorem blended_o (g : Gd) (i o : Nat) : only3 g (fX6_blendedScore g i o).2 20 := (copy_o g 12 i).trans9 (takeIn_o _ 12 o)
def bOK (nd : Nat) (g : Gd) (v : Int32) : Prop := v = -1 ∨ ∃ a c, a < c ∧ c < nd ∧ v = 20 * nI a + nI c ∧ ¬ fX3_canBlendWith g a c = 0
theorem L19_s (hnd : nd ≤ 12) (hd : g 0 0 10 = nI nd) {i : Nat} : ∀ (n j : Nat) (best bs : Int32) (g1 : Gd), j + n < 1000 → i < j → only3 g g1 20 → -1 ≤ bs.toInt → bOK nd g best → only3 g (fX6_bestBlend_L19 g i n j best bs g1).2.2 20 ∧ -1 ≤ (fX6_bestBlend_L19 g i n j best bs g1).2.1.toInt ∧ bOK nd g (fX6_bestBlend_L19 g i n j best bs g1).1 := by
  intro n
  induction n with
  | zero => intro j best bs g1 _ _ o hb hk; exact ⟨o, hb, hk⟩
  | succ n ih =>
    intro j best bs g1 hj hij o hb hk
    have m1 : (-1 : Int32).toInt = -1 := rfl
    rw [fX6_bestBlend_L19, o 0 0 10 (by omega), hd]
    by_cases c : nd ≤ j
    · rw [if_pos ((nle (by omega) (by omega)).mpr c)]; exact ⟨o, hb, hk⟩
    · rw [if_neg (fun q => c ((nle (by omega) (by omega)).mp q)), can_o o (by omega) (by omega)]
      by_cases d1 : fX3_canBlendWith g i j = 0
      · rw [if_pos d1, if_pos (show -1 ≤ bs by rw [le_ti, m1]; exact hb)]
        exact ih _ _ _ _ (by omega) (by omega) o hb hk
      · rw [if_neg d1]
        by_cases d2 : (fX6_blendedScore g1 i j).1 ≤ bs
        · rw [if_pos d2]; exact ih _ _ _ _ (by omega) (by omega) (o.trans9 (blended_o _ _ _)) hb hk
        · rw [if_neg d2]
          refine ih _ _ _ _ (by omega) (by omega) (o.trans9 (blended_o _ _ _)) ?_ (Or.inr ⟨i, j, hij, by omega, rfl, d1⟩)
          have := score_40 (fX3_takeIn (fX3_copyFrom g1 12 i) 12 j) 12
          show -1 ≤ (fX3_score (fX3_takeIn (fX3_copyFrom g1 12 i) 12 j) 12).toInt
          omega
theorem L6_s (hnd : nd ≤ 12) (hd : g 0 0 10 = nI nd) : ∀ (n i : Nat) (best bs : Int32) (g1 : Gd), i + n < 500 → only3 g g1 20 → -1 ≤ bs.toInt → bOK nd g best → only3 g (fX6_bestBlend_L6 g n i best bs g1).2.2 20 ∧ bOK nd g (fX6_bestBlend_L6 g n i best bs g1).1 := by
  intro n
  induction n with
  | zero => intro i best bs g1 _ o hb hk; exact ⟨o, hk⟩
  | succ n ih =>
    intro i best bs g1 hi o hb hk
    rw [fX6_bestBlend_L6]
    split
    · exact ⟨o, hk⟩
    · obtain ⟨q1, q2, q3⟩ := L19_s hnd hd (i := i) (12 - i) (i + 1) best bs g1 (by omega) (by omega) o hb hk
      exact ih _ _ _ _ (by omega) q1 q2 q3
theorem o_best (I : IV na nb nc nd gn pr g) : ∃ (v : Int32) (g2 : Gd), fX6_bestBlend g = (v, g2) ∧ IV na nb nc nd gn pr g2 ∧ g2 0 0 0 = g 0 0 0 ∧ (v < 0 ∨ ∃ a c, a < c ∧ c < nd ∧ v / 20 = nI a ∧ v - v / 20 * 20 = nI c ∧ ¬ fX3_canBlendWith g2 a c = 0) := by
  have z := I.S.cnt
  have q : SY na nb nc nd (fX6_bestBlend g).2 := by
    obtain ⟨m, h, hI, hT⟩ := I.S
    exact SY.of (P_bestBlend (T := 0) h hI hT)
  have L := L6_s z.2.2.2 I.S.d 13 0 (-1) (-1) g (by decide) only3.rf (by decide) (Or.inl rfl)
  have o : only3 g (fX6_bestBlend g).2 20 := L.1
  refine ⟨(fX6_bestBlend g).1, (fX6_bestBlend g).2, rfl, ⟨q, I.E.tri z.2.2.1 o, ?_, I.M.o3 o, (o 0 0 2 (by omega)).trans I.P⟩, o 0 0 0 (by omega), ?_⟩
  · refine BAL.iff.mpr ?_
    rw [Qs.tri o, ev_cg (g := g) (fun k _ => o 1 k 3 (by omega))]
    exact BAL.iff.mp I.B
  · rcases L.2 with w | ⟨a, c, h1, h2, h3, h4⟩
    · exact Or.inl (by rw [show (fX6_bestBlend g).1 = -1 from w]; decide)
    · refine Or.inr ⟨a, c, h1, h2, ?_, ?_, ?_⟩
      · rw [show (fX6_bestBlend g).1 = _ from h3]
        have e20 : (20 : Int32).toInt = 20 := rfl
        have ea : (nI a).toInt = a := ti_nI (by omega)
        have ec : (nI c).toInt = c := ti_nI (by omega)
        have e1 : (20 * nI a).toInt = 20 * a := by rw [ti_mul (by rw [e20, ea]; omega) (by rw [e20, ea]; omega), e20, ea]
        have e2 : (20 * nI a + nI c).toInt = 20 * a + c := by rw [ti_add (by rw [e1, ec]; omega) (by rw [e1, ec]; omega), e1, ec]
        apply ti_eq
        rw [ti_div (by rw [e2]; omega) (by rw [e20]; omega), e2, e20, ea]
        omega
      · rw [show (fX6_bestBlend g).1 = _ from h3]
        have e20 : (20 : Int32).toInt = 20 := rfl
        have ea : (nI a).toInt = a := ti_nI (by omega)
        have ec : (nI c).toInt = c := ti_nI (by omega)
        have e1 : (20 * nI a).toInt = 20 * a := by rw [ti_mul (by rw [e20, ea]; omega) (by rw [e20, ea]; omega), e20, ea]
        have e2 : (20 * nI a + nI c).toInt = 20 * a + c := by rw [ti_add (by rw [e1, ec]; omega) (by rw [e1, ec]; omega), e1, ec]
        have e3 : (20 * nI a + nI c) / 20 = nI a := by
          apply ti_eq
          rw [ti_div (by rw [e2]; omega) (by rw [e20]; omega), e2, e20, ea]
          omega
        rw [e3]
        grind
      · rw [can_o o (by omega) (by omega)]; exact h4
/-! sell -/
theorem sl1 (rest s S r x0 : Int32) (h : r = rest - s + (S + (x0 + s - x0))) : r = rest + S := by grind
theorem sell_L (hna : na ≤ 6) {x each lb : Int32} : ∀ (n k : Nat) (rest : Int32) (g1 : Gd), na < k + n → k ≤ na → g1 0 0 7 = nI na → (∀ t i c, ¬ (t = 1 ∧ c = 2) → (fX6_sell_L29 g x each lb n k rest g1).2 t i c = g1 t i c) ∧ (fX6_sell_L29 g x each lb n k rest g1).1 + sm (cns (fX6_sell_L29 g x each lb n k rest g1).2) 6 = rest + sm (cns g1) 6 := by
  intro n
  induction n with
  | zero => intro k rest g1 h1 h2; exact absurd h1 (by omega)
  | succ n ih =>
    intro k rest g1 h1 h2 h7
    rw [fX6_sell_L29, h7]
    by_cases c : na ≤ k
    · rw [if_pos ((nle (by omega) (by omega)).mpr c)]
      exact ⟨fun _ _ _ _ => rfl, rfl⟩
    · rw [if_neg (fun q => c ((nle (by omega) (by omega)).mp q))]
      generalize fX3_shareOf g1 x.toNatClampNeg (nI k) (fX3_worth g x.toNatClampNeg each lb) = s
      obtain ⟨q1, q2⟩ := ih (k + 1) (rest - s) (up g1 1 k 2 (g1 1 k 2 + s)) (by omega) (by omega) (by rw [up_nt (by decide)]; exact h7)
      refine ⟨fun t i c h => (q1 t i c h).trans (up_ne (fun w => h ⟨w.1, w.2.2⟩)), ?_⟩
      have e : sm (cns (up g1 1 k 2 (g1 1 k 2 + s))) 6 = sm (cns g1) 6 + (g1 1 k 2 + s - g1 1 k 2) := by
        rw [sm_set (f := cns g1) (f2 := cns (up g1 1 k 2 (g1 1 k 2 + s))) (x := k) 6 (by omega) (fun i _ hne => up_ni hne)]
        rw [show cns (up g1 1 k 2 (g1 1 k 2 + s)) k = g1 1 k 2 + s from up_eq _ _ _ _ _]; rfl
      rw [e] at q2
      exact sl1 _ _ _ _ _ q2
theorem o_sell (I : IV na nb nc nd gn pr g) {x each : Int32} (hx0 : 0 ≤ x.toInt) (hx : x.toInt < nd) (he : 1 ≤ each.toInt ∧ each.toInt ≤ 200) (hi : ¬ g 3 (8 + x.toNatClampNeg) 10 = 0) (hg : ¬ fX3_grade g x.toNatClampNeg = -1) : ∃ (v : Int32) (g2 : Gd), fX6_sell g x each 1 = (0, v, g2) ∧ IV na nb nc nd (gn + (if fX3_grade g x.toNatClampNeg < 80 then g 3 (8 + x.toNatClampNeg) 0 * each else g 3 (8 + x.toNatClampNeg) 0 * each + 10 * fX4_certifiedKilos g (8 + x.toNatClampNeg))) pr g2 ∧ g2 0 0 0 = g 0 0 0 ∧ v = g2 0 0 1 - g 0 0 1 ∧ g2 3 (8 + x.toNatClampNeg) 10 = 0 := by
  have F := I.S.lo hx0 hx
  have z := I.S.cnt
  have e1 : (1 : Int32).toInt = 1 := rfl
  have e200 : (200 : Int32).toInt = 200 := rfl
  have ns : fX6_needSale g x.toNatClampNeg each = 0 := by
    unfold fX6_needSale
    rw [if_neg (show ¬ each < 1 by rw [lt_ti, e1]; omega), if_pos (show each ≤ 200 by rw [le_ti, e200]; omega), if_neg hi, if_neg hg]
  have hw : fX3_worth g x.toNatClampNeg each 1 = if fX3_grade g x.toNatClampNeg < 80 then g 3 (8 + x.toNatClampNeg) 0 * each else g 3 (8 + x.toNatClampNeg) 0 * each + 10 * fX4_certifiedKilos g (8 + x.toNatClampNeg) := by
    unfold fX3_worth
    rw [if_neg (show ¬ (1 : Int32) = 0 by decide)]
  have q : SY na nb nc nd (fX6_sell g x each 1).2.2 := by
    obtain ⟨m, h, hI, hT⟩ := I.S
    exact SY.of (P_sell (T := 0) h hI hT x each 1)
  obtain ⟨L1, L2⟩ := sell_L (g := g) z.1 (x := x) (each := each) (lb := 1) 7 0 (fX3_worth g x.toNatClampNeg each 1) g (by omega) (by omega) I.S.a
  have e : fX6_sell g x each 1 = (0, (fX6_sell_L29 g x each 1 7 0 (fX3_worth g x.toNatClampNeg each 1) g).1, (up (up (up ((fX6_sell_L29 g x each 1 7 0 (fX3_worth g x.toNatClampNeg each 1) g).2) 0 0 1 ((((fX6_sell_L29 g x each 1 7 0 (fX3_worth g x.toNatClampNeg each 1) g).2) 0 0 1) + ((fX6_sell_L29 g x each 1 7 0 (fX3_worth g x.toNatClampNeg each 1) g).1))) 0 0 4 ((((fX6_sell_L29 g x each 1 7 0 (fX3_worth g x.toNatClampNeg each 1) g).2) 0 0 4) + (((fX6_sell_L29 g x each 1 7 0 (fX3_worth g x.toNatClampNeg each 1) g).2) 3 (8 + x.toNatClampNeg) 0))) 3 (8 + x.toNatClampNeg) 10 0)) := by
    unfold fX6_sell
    rw [if_pos F.1, if_pos ns]
  rw [e] at q ⊢
  generalize fX6_sell_L29 g x each 1 7 0 (fX3_worth g x.toNatClampNeg each 1) g = R at *
  rw [hw] at L2
  generalize (if fX3_grade g x.toNatClampNeg < 80 then g 3 (8 + x.toNatClampNeg) 0 * each else g 3 (8 + x.toNatClampNeg) 0 * each + 10 * fX4_certifiedKilos g (8 + x.toNatClampNeg)) = Wv at *
  generalize x.toNatClampNeg = a at *
  obtain ⟨v, r⟩ := R
  dsimp only at L1 L2 q
  have r1 : r 0 0 1 = g 0 0 1 := L1 0 0 1 (by omega)
  have rk : r 3 (8 + a) 0 = g 3 (8 + a) 0 := L1 3 (8 + a) 0 (by omega)
  refine ⟨v, _, rfl, ⟨q, ?_, ?_, ?_, ?_⟩, ?_, ?_, up_eq _ _ _ _ _⟩
  · have E1 : E0 na nc r := I.E.cg (fun t i k h1 h2 => L1 t i k (fun w => h1 w.1))
    exact E0.up (E0.up (E0.up E1 z.2.2.1 rfl) z.2.2.1 rfl) z.2.2.1 (by simp [irr])
  · refine BAL.iff.mpr ?_
    have q0 : Qs r = Qs g := Qs.cg (fun i _ => ⟨L1 2 i 1 (by omega), L1 2 i 3 (by omega)⟩) (fun j _ => ⟨L1 3 j 0 (by omega), L1 3 j 10 (by omega)⟩) (L1 0 0 4 (by omega)) (L1 0 0 5 (by omega))
    have q1 : Qs (up r 0 0 1 (r 0 0 1 + v)) = Qs r := Qs.n rfl
    have q2 : Qs (up (up r 0 0 1 (r 0 0 1 + v)) 0 0 4 (r 0 0 4 + r 3 (8 + a) 0)) = Qs (up r 0 0 1 (r 0 0 1 + v)) + ((r 0 0 4 + r 3 (8 + a) 0) - up r 0 0 1 (r 0 0 1 + v) 0 0 4) := Qs.l4
    have o5 : only3 (up (up r 0 0 1 (r 0 0 1 + v)) 0 0 4 (r 0 0 4 + r 3 (8 + a) 0)) (up (up (up r 0 0 1 (r 0 0 1 + v)) 0 0 4 (r 0 0 4 + r 3 (8 + a) 0)) 3 (8 + a) 10 0) (8 + a) := only3_up
    have q5 := Qs.lt o5 (by omega)
    have w5 : sk (up (up (up r 0 0 1 (r 0 0 1 + v)) 0 0 4 (r 0 0 4 + r 3 (8 + a) 0)) 3 (8 + a) 10 0) a = 0 := if_pos (up_eq _ _ _ _ _)
    have w4 : sk (up (up r 0 0 1 (r 0 0 1 + v)) 0 0 4 (r 0 0 4 + r 3 (8 + a) 0)) a = r 3 (8 + a) 0 := by
      unfold sk
      rw [up_nt (by decide), up_nt (by decide), up_nt (by decide), up_nt (by decide), L1 3 (8 + a) 10 (by omega)]
      exact if_neg hi
    have u4 : up r 0 0 1 (r 0 0 1 + v) 0 0 4 = r 0 0 4 := up_nk (by decide)
    have s1 : sm (evr (up (up (up r 0 0 1 (r 0 0 1 + v)) 0 0 4 (r 0 0 4 + r 3 (8 + a) 0)) 3 (8 + a) 10 0)) 6 = sm (evr g) 6 := ev_cg (fun k hk => by
      rw [up_nt (by decide), up_nt (by decide), up_nt (by decide)]; exact L1 1 k 3 (by omega))
    rw [s1, q5, q2, q1, q0, w5, w4, u4, BAL.iff.mp I.B]
    grind
  · show up (up (up r 0 0 1 (r 0 0 1 + v)) 0 0 4 (r 0 0 4 + r 3 (8 + a) 0)) 3 (8 + a) 10 0 0 0 1 + sm (cns (up (up (up r 0 0 1 (r 0 0 1 + v)) 0 0 4 (r 0 0 4 + r 3 (8 + a) 0)) 3 (8 + a) 10 0)) 6 = gn + Wv
    have s2 : sm (cns (up (up (up r 0 0 1 (r 0 0 1 + v)) 0 0 4 (r 0 0 4 + r 3 (8 + a) 0)) 3 (8 + a) 10 0)) 6 = sm (cns r) 6 := sm_cg (f := cns r) 6 (fun i _ => by
      show up (up (up r 0 0 1 (r 0 0 1 + v)) 0 0 4 (r 0 0 4 + r 3 (8 + a) 0)) 3 (8 + a) 10 0 1 i 2 = r 1 i 2
      rw [up_nt (by decide), up_nt (by decide), up_nt (by decide)])
    have M : g 0 0 1 + sm (cns g) 6 = gn := I.M
    rw [s2, up_nt (by decide), up_nk (by decide), up_eq, r1]
    grind
  · dsimp only; rw [up_nt (by decide), up_nk (by decide), up_nk (by decide), L1 0 0 2 (by omega)]; exact I.P
  · dsimp only; rw [up_nt (by decide), up_nk (by decide), up_nk (by decide)]; exact L1 0 0 0 (by omega)
  · dsimp only
    rw [up_nt (by decide), up_nk (by decide), up_eq, r1]
    grind
end BS
