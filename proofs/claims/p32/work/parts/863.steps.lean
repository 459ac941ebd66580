/-! ===== the calls keep the invariant: the simple ones, and the rules of the sums ===== -/
theorem SY.of {na nb nc nd cd : Nat} {kk v v2 : Int32} {g2 : Gd} {m2 : Md} (h : Ok na nb nc nd kk cd v g2 v2 m2) : SY na nb nc nd g2 := ⟨m2, h.2.2⟩
def Qs (g : Gd) : Int32 := ((((sm (wt g) 20 + sm (tkl g) 3) + sm (bkl g) 5) + sm (sk g) 12) + g 0 0 4) + g 0 0 5
theorem BAL.iff {g : Gd} : BAL g ↔ sm (evr g) 6 = Qs g := Iff.rfl
section QS
variable {g g2 : Gd}
theorem qa1 (a b c d e f x y : Int32) : ((((a + (b + (y - x))) + c) + d) + e) + f = (((((a + b) + c) + d) + e) + f) + (y - x) := by grind
theorem qa2 (a b c d e f x y : Int32) : ((((a + b) + (c + (y - x))) + d) + e) + f = (((((a + b) + c) + d) + e) + f) + (y - x) := by grind
theorem qa3 (a b c d e f x y : Int32) : ((((a + b) + c) + (d + (y - x))) + e) + f = (((((a + b) + c) + d) + e) + f) + (y - x) := by grind
theorem qa0 (a b c d e f x y : Int32) : (((((a + (y - x)) + b) + c) + d) + e) + f = (((((a + b) + c) + d) + e) + f) + (y - x) := by grind
theorem qa5 (a b c d e f y : Int32) : ((((a + b) + c) + d) + e) + y = (((((a + b) + c) + d) + e) + f) + (y - f) := by grind
theorem qa4 (a b c d e f y : Int32) : ((((a + b) + c) + d) + y) + f = (((((a + b) + c) + d) + e) + f) + (y - e) := by grind
theorem wt_o {j : Nat} (o : only3 g g2 j) : sm (wt g2) 20 = sm (wt g) 20 := sm_cg (f := wt g) (f2 := wt g2) 20 (fun i _ => by
  unfold wt; rw [o 2 i 3 (by omega), o 2 i 1 (by omega)])
theorem Qs.tk {j : Nat} (o : only3 g g2 j) (hj : j < 3) : Qs g2 = Qs g + (g2 3 j 0 - g 3 j 0) := by
  unfold Qs
  rw [wt_o o, sm_set (f := tkl g) (f2 := tkl g2) (x := j) 3 hj (fun i _ h => o 3 i 0 (by omega)), sm_cg (f := bkl g) (f2 := bkl g2) 5 (fun i _ => o 3 (3 + i) 0 (by omega)), sm_cg (f := sk g) (f2 := sk g2) 12 (fun i _ => by unfold sk; rw [o 3 (8 + i) 0 (by omega), o 3 (8 + i) 10 (by omega)]), o 0 0 4 (by omega), o 0 0 5 (by omega)]
  exact qa1 _ _ _ _ _ _ _ _
theorem Qs.bd {j : Nat} (o : only3 g g2 (3 + j)) (hj : j < 5) : Qs g2 = Qs g + (g2 3 (3 + j) 0 - g 3 (3 + j) 0) := by
  unfold Qs
  rw [wt_o o, sm_cg (f := tkl g) (f2 := tkl g2) 3 (fun i _ => o 3 i 0 (by omega)), sm_set (f := bkl g) (f2 := bkl g2) (x := j) 5 hj (fun i _ h => o 3 (3 + i) 0 (by omega)), sm_cg (f := sk g) (f2 := sk g2) 12 (fun i _ => by unfold sk; rw [o 3 (8 + i) 0 (by omega), o 3 (8 + i) 10 (by omega)]), o 0 0 4 (by omega), o 0 0 5 (by omega)]
  exact qa2 _ _ _ _ _ _ _ _
theorem Qs.lt {j : Nat} (o : only3 g g2 (8 + j)) (hj : j < 12) : Qs g2 = Qs g + (sk g2 j - sk g j) := by
  unfold Qs
  rw [wt_o o, sm_cg (f := tkl g) (f2 := tkl g2) 3 (fun i _ => o 3 i 0 (by omega)), sm_cg (f := bkl g) (f2 := bkl g2) 5 (fun i _ => o 3 (3 + i) 0 (by omega)), sm_set (f := sk g) (f2 := sk g2) (x := j) 12 hj (fun i _ h => by unfold sk; rw [o 3 (8 + i) 0 (by omega), o 3 (8 + i) 10 (by omega)]), o 0 0 4 (by omega), o 0 0 5 (by omega)]
  exact qa3 _ _ _ _ _ _ _ _
theorem Qs.b {j : Nat} (hj : j < 20) (o : ∀ t i k, ¬ (t = 2 ∧ i = j) → ¬ t = 0 → g2 t i k = g t i k) (e4 : g2 0 0 4 = g 0 0 4) (e5 : g2 0 0 5 = g 0 0 5) : Qs g2 = Qs g + (wt g2 j - wt g j) := by
  unfold Qs
  rw [sm_set (f := wt g) (f2 := wt g2) (x := j) 20 hj (fun i _ h => by unfold wt; rw [o 2 i 3 (by omega) (by omega), o 2 i 1 (by omega) (by omega)]), sm_cg (f := tkl g) (f2 := tkl g2) 3 (fun i _ => o 3 i 0 (by omega) (by omega)), sm_cg (f := bkl g) (f2 := bkl g2) 5 (fun i _ => o 3 (3 + i) 0 (by omega) (by omega)), sm_cg (f := sk g) (f2 := sk g2) 12 (fun i _ => by unfold sk; rw [o 3 (8 + i) 0 (by omega) (by omega), o 3 (8 + i) 10 (by omega) (by omega)]), e4, e5]
  exact qa0 _ _ _ _ _ _ _ _
theorem Qs.cg (e2 : ∀ i, i < 20 → g2 2 i 1 = g 2 i 1 ∧ g2 2 i 3 = g 2 i 3) (e3 : ∀ j, j < 20 → g2 3 j 0 = g 3 j 0 ∧ g2 3 j 10 = g 3 j 10) (e4 : g2 0 0 4 = g 0 0 4) (e5 : g2 0 0 5 = g 0 0 5) : Qs g2 = Qs g := by
  unfold Qs
  rw [sm_cg (f := wt g) (f2 := wt g2) 20 (fun i hi => by unfold wt; rw [(e2 i hi).1, (e2 i hi).2]), sm_cg (f := tkl g) (f2 := tkl g2) 3 (fun i hi => (e3 i (by omega)).1), sm_cg (f := bkl g) (f2 := bkl g2) 5 (fun i hi => (e3 (3 + i) (by omega)).1), sm_cg (f := sk g) (f2 := sk g2) 12 (fun i hi => by unfold sk; rw [(e3 (8 + i) (by omega)).1, (e3 (8 + i) (by omega)).2]), e4, e5]
/-- entries that Qs does not speak of -/
def irq (t i k : Nat) : Bool := match t with
  | 0 => decide (k ≠ 4 ∧ k ≠ 5)
  | 2 => decide (k ≠ 1 ∧ k ≠ 3)
  | 3 => decide (i = 20 ∨ (k ≠ 0 ∧ k ≠ 10))
  | _ => true
theorem Qs.n {t i k : Nat} {v : Int32} (hi : irq t i k = true) : Qs (up g t i k v) = Qs g := by
  refine Qs.cg (fun j hj => ⟨up_ne ?_, up_ne ?_⟩) (fun j hj => ⟨up_ne ?_, up_ne ?_⟩) (up_ne ?_) (up_ne ?_)
  all_goals (rintro ⟨rfl, rfl, rfl⟩; simp [irq] at hi <;> omega)
theorem Qs.l5 {v : Int32} : Qs (up g 0 0 5 v) = Qs g + (v - g 0 0 5) := by
  have e := qa5 (sm (wt g) 20) (sm (tkl g) 3) (sm (bkl g) 5) (sm (sk g) 12) (g 0 0 4) (g 0 0 5) v
  exact e
theorem Qs.l4 {v : Int32} : Qs (up g 0 0 4 v) = Qs g + (v - g 0 0 4) := by
  have e := qa4 (sm (wt g) 20) (sm (tkl g) 3) (sm (bkl g) 5) (sm (sk g) 12) (g 0 0 4) (g 0 0 5) v
  exact e
theorem ev_cg (e : ∀ i, i < 6 → g2 1 i 3 = g 1 i 3) : sm (evr g2) 6 = sm (evr g) 6 := sm_cg (f := evr g) (f2 := evr g2) 6 e
theorem COIN.up {gn v : Int32} {t i k : Nat} (h : COIN g gn) (h0 : ¬ (t = 0 ∧ k = 1)) (h1 : ¬ (t = 1 ∧ k = 2)) : COIN (up g t i k v) gn :=
  h.cg (up_ne (by omega)) (fun j _ => up_ne (by omega))
theorem COIN.o3 {gn : Int32} {j : Nat} (h : COIN g gn) (o : only3 g g2 j) : COIN g2 gn := h.cg (o 0 0 1 (by omega)) (fun i _ => o 1 i 2 (by omega))
end QS
section EO
variable {na nc : Nat} {g g2 : Gd}
/-- a row of the mixes has changed -/
theorem E0.row (h : E0 na nc g) (hn : nc ≤ 5) {j : Nat} (o : only3 g g2 j) (h4 : ∀ f, na ≤ f → f < 6 → j < 20 → g2 4 j f = 0) (ht : ∀ i, i < 3 → j = i → tkE g2 i) (hb : ∀ i, i < nc → j = 3 + i → bdE g2 i) : E0 na nc g2 := by
  refine ⟨fun i hi f h1 h2 => ?_, fun i hi => ?_, fun i hi => ?_, fun i hi => ?_, fun i hi c hc => ?_, fun c hc => ?_⟩
  · by_cases e : i = j
    · subst e; exact h4 f h1 h2 hi
    · rw [o 4 i f (by omega)]; exact h.x1 hi h1 h2
  · by_cases e : j = i
    · exact ht i hi e
    · unfold tkE
      rw [o 3 i 0 (by omega), o 3 i 1 (by omega), o 3 i 2 (by omega), o 3 i 3 (by omega)]
      exact h.x2 hi
  · by_cases e : j = 3 + i
    · exact hb i hi e
    · unfold bdE
      rw [o 3 (3 + i) 0 (by omega), o 3 (3 + i) 8 (by omega), o 3 (3 + i) 5 (by omega), o 3 (3 + i) 4 (by omega), o 3 (3 + i) 3 (by omega), o 3 (3 + i) 6 (by omega), o 0 0 0 (by omega)]
      exact h.x3 hi
  · unfold bkE
    rw [o 2 i 3 (by omega), o 2 i 4 (by omega)]
    exact h.x4 hi
  · rw [o 6 i c (by omega)]; exact h.x5 hi hc
  · rw [o 7 0 c (by omega)]; exact h.x6 hc
/-- the trial lot has changed -/
theorem E0.tri (h : E0 na nc g) (hn : nc ≤ 5) (o : only3 g g2 20) : E0 na nc g2 := h.row hn o (fun f _ _ hj => absurd hj (by omega)) (fun i hi e => absurd e (by omega)) (fun i hi e => absurd e (by omega))
theorem Qs.tri (o : only3 g g2 20) : Qs g2 = Qs g := Qs.cg (fun i _ => ⟨o 2 i 1 (by omega), o 2 i 3 (by omega)⟩) (fun j _ => ⟨o 3 j 0 (by omega), o 3 j 10 (by omega)⟩) (o 0 0 4 (by omega)) (o 0 0 5 (by omega))
/-- a basket's row has changed -/
theorem E0.b (h : E0 na nc g) {j : Nat} (o : ∀ t i k, ¬ (t = 2 ∧ i = j) → ¬ t = 1 → ¬ (t = 0 ∧ k ≠ 0) → g2 t i k = g t i k) (hb : bkE g2 j) : E0 na nc g2 := by
  refine ⟨fun i hi f h1 h2 => ?_, fun i hi => ?_, fun i hi => ?_, fun i hi => ?_, fun i hi c hc => ?_, fun c hc => ?_⟩
  · rw [o 4 i f (by omega) (by omega) (by omega)]; exact h.x1 hi h1 h2
  · unfold tkE
    rw [o 3 i 0 (by omega) (by omega) (by omega), o 3 i 1 (by omega) (by omega) (by omega), o 3 i 2 (by omega) (by omega) (by omega), o 3 i 3 (by omega) (by omega) (by omega)]
    exact h.x2 hi
  · unfold bdE
    rw [o 3 (3 + i) 0 (by omega) (by omega) (by omega), o 3 (3 + i) 8 (by omega) (by omega) (by omega), o 3 (3 + i) 5 (by omega) (by omega) (by omega), o 3 (3 + i) 4 (by omega) (by omega) (by omega), o 3 (3 + i) 3 (by omega) (by omega) (by omega), o 3 (3 + i) 6 (by omega) (by omega) (by omega), o 0 0 0 (by omega) (by omega) (by omega)]
    exact h.x3 hi
  · by_cases e : i = j
    · subst e; exact hb
    · unfold bkE
      rw [o 2 i 3 (by omega) (by omega) (by omega), o 2 i 4 (by omega) (by omega) (by omega)]
      exact h.x4 hi
  · rw [o 6 i c (by omega) (by omega) (by omega)]; exact h.x5 hi hc
  · rw [o 7 0 c (by omega) (by omega) (by omega)]; exact h.x6 hc
end EO
/-- the invariant of the law's loop -/
def IV (na nb nc nd : Nat) (gn pr : Int32) (g : Gd) : Prop := (SY na nb nc nd g) ∧ (E0 na nc g) ∧ (BAL g) ∧ (COIN g gn) ∧ (g 0 0 2 = pr)
theorem IV.S {na nb nc nd : Nat} {gn pr : Int32} {g : Gd} (h : IV na nb nc nd gn pr g) : SY na nb nc nd g := h.1
theorem IV.E {na nb nc nd : Nat} {gn pr : Int32} {g : Gd} (h : IV na nb nc nd gn pr g) : E0 na nc g := h.2.1
theorem IV.B {na nb nc nd : Nat} {gn pr : Int32} {g : Gd} (h : IV na nb nc nd gn pr g) : BAL g := h.2.2.1
theorem IV.M {na nb nc nd : Nat} {gn pr : Int32} {g : Gd} (h : IV na nb nc nd gn pr g) : COIN g gn := h.2.2.2.1
theorem IV.P {na nb nc nd : Nat} {gn pr : Int32} {g : Gd} (h : IV na nb nc nd gn pr g) : g 0 0 2 = pr := h.2.2.2.2
section OPS
variable {na nb nc nd : Nat} {g : Gd} {gn pr : Int32}
theorem o_label (I : IV na nb nc nd gn pr g) {x d : Int32} (hx0 : 0 ≤ x.toInt) (hx : x.toInt < na) (hd : -1 ≤ d.toInt ∧ d.toInt ≤ 900) : ∃ g2, fX6_label g x d = (0, g 1 x.toNatClampNeg 1, g2) ∧ IV na nb nc nd gn pr g2 ∧ g2 0 0 0 = g 0 0 0 := by
  have F := I.S.fa hx0 hx
  have z := I.S.cnt
  have m1 : (-1 : Int32).toInt = -1 := rfl
  have m9 : (900 : Int32).toInt = 900 := rfl
  have e : fX6_label g x d = (0, g 1 x.toNatClampNeg 1, up g 1 x.toNatClampNeg 1 d) := by
    unfold fX6_label
    rw [if_pos F.1, if_neg (show ¬ d < -1 by rw [lt_ti, m1]; omega), if_pos (show d ≤ 900 by rw [le_ti, m9]; omega)]
  refine ⟨_, e, ⟨?_, I.E.up z.2.2.1 rfl, I.B.up (by simp [irb]), I.M.up (by omega) (by omega), I.P⟩, rfl⟩
  have q : SY na nb nc nd (fX6_label g x d).2.2 := by
    obtain ⟨m, h, hI, hT⟩ := I.S
    exact SY.of (P_label (T := 0) h hI hT x d)
  rw [e] at q
  exact q
theorem o_price (I : IV na nb nc nd gn pr g) {x : Int32} (hx : 1 ≤ x.toInt ∧ x.toInt ≤ 50) : ∃ g2, fX6_price g x = (0, pr, g2) ∧ IV na nb nc nd gn x g2 ∧ g2 0 0 0 = g 0 0 0 := by
  have z := I.S.cnt
  have m1 : (1 : Int32).toInt = 1 := rfl
  have m9 : (50 : Int32).toInt = 50 := rfl
  have e : fX6_price g x = (0, pr, up g 0 0 2 x) := by
    unfold fX6_price
    rw [if_neg (show ¬ x < 1 by rw [lt_ti, m1]; omega), if_pos (show x ≤ 50 by rw [le_ti, m9]; omega), I.P]
  refine ⟨_, e, ⟨?_, I.E.up z.2.2.1 rfl, I.B.up (by simp [irb]), I.M.up (by omega) (by omega), up_eq _ _ _ _ _⟩, rfl⟩
  have q : SY na nb nc nd (fX6_price g x).2.2 := by
    obtain ⟨m, h, hI, hT⟩ := I.S
    exact SY.of (P_price (T := 0) h hI hT x)
  rw [e] at q
  exact q
theorem only3_up {j k : Nat} {v : Int32} : only3 g (up g 3 j k v) j := only3.rf.upd (by decide) (by decide)
theorem o_turn (I : IV na nb nc nd gn pr g) {b : Int32} (hb0 : 0 ≤ b.toInt) (hb : b.toInt < nc) (hk : ¬ g 3 (3 + b.toNatClampNeg) 0 ≤ 0) : ∃ g2, fX6_turn g b = (0, g 3 (3 + b.toNatClampNeg) 6, g2) ∧ ¬ g 3 (3 + b.toNatClampNeg) 6 < 0 ∧ IV na nb nc nd gn pr g2 ∧ g2 0 0 0 = g 0 0 0 ∧ g2 3 (3 + b.toNatClampNeg) 6 = 0 := by
  have F := I.S.be hb0 hb
  have z := I.S.cnt
  have e0 : (0 : Int32).toInt = 0 := rfl
  have hk0 : ¬ g 3 (3 + b.toNatClampNeg) 0 = 0 := fun w => hk (by rw [w]; decide)
  have x := I.E.x3 F.2
  have e : fX6_turn g b = (0, g 3 (3 + b.toNatClampNeg) 6, up g 3 (3 + b.toNatClampNeg) 6 0) := by
    unfold fX6_turn fX4_isEmpty
    rw [if_pos F.1, if_neg hk0, if_pos rfl]
  have o : only3 g (up g 3 (3 + b.toNatClampNeg) 6 0) (3 + b.toNatClampNeg) := only3_up
  refine ⟨_, e, by rw [lt_ti, e0]; have := x.2.2.2.1; omega, ⟨?_, I.E.row z.2.2.1 o (fun f h1 h2 h3 => ?_) (fun i hi w => absurd w (by omega)) (fun i hi w => ?_), I.B.up (by simp [irb]), I.M.up (by omega) (by omega), I.P⟩, rfl, up_eq _ _ _ _ _⟩
  · have q : SY na nb nc nd (fX6_turn g b).2.2 := by
      obtain ⟨m, h, hI, hT⟩ := I.S
      exact SY.of (P_turn (T := 0) h hI hT b)
    rw [e] at q
    exact q
  · rw [up_nt (by decide)]; exact I.E.x1 h3 h1 h2
  · have w : i = b.toNatClampNeg := by omega
    subst w
    have hh := I.S.hr
    unfold bdE
    rw [up_nk (by decide), up_nk (by decide), up_nk (by decide), up_nk (by decide), up_nk (by decide), up_eq, up_nt (by decide), e0]
    exact ⟨x.1, x.2.1, x.2.2.1, by omega, hh.1⟩
theorem o_cover (I : IV na nb nc nd gn pr g) {b on : Int32} (hb0 : 0 ≤ b.toInt) (hb : b.toInt < nc) (hon : on = 0 ∨ on = 1) : ∃ g2, fX6_cover g b on = (0, g 3 (3 + b.toNatClampNeg) 9, g2) ∧ IV na nb nc nd gn pr g2 ∧ g2 0 0 0 = g 0 0 0 ∧ g2 3 (3 + b.toNatClampNeg) 9 = on := by
  have F := I.S.be hb0 hb
  have z := I.S.cnt
  have e : fX6_cover g b on = (0, g 3 (3 + b.toNatClampNeg) 9, up g 3 (3 + b.toNatClampNeg) 9 on) := by
    unfold fX6_cover
    rw [if_pos F.1]
  refine ⟨_, e, ⟨?_, I.E.up z.2.2.1 (by simp [irr]), I.B.up (by simp [irb]), I.M.up (by omega) (by omega), I.P⟩, rfl, up_eq _ _ _ _ _⟩
  have q : SY na nb nc nd (fX6_cover g b on).2.2 := by
    obtain ⟨m, h, hI, hT⟩ := I.S
    exact SY.of (P_cover (T := 0) h hI hT b on hon)
  rw [e] at q
  exact q
theorem o_cup (I : IV na nb nc nd gn pr g) {l t : Int32} (hl0 : 0 ≤ l.toInt) (hl : l.toInt < nd) (ht0 : 0 ≤ t.toInt) (ht : t.toInt < (3 : Nat)) (hi : ¬ g 3 (8 + l.toNatClampNeg) 10 = 0) : ∃ g2, fX6_cup g l t = (0, fX3_score g l.toNatClampNeg, g2) ∧ IV na nb nc nd gn pr g2 ∧ g2 0 0 0 = g 0 0 0 ∧ g2 3 (8 + l.toNatClampNeg) 0 = g 3 (8 + l.toNatClampNeg) 0 ∧ fX3_score g2 l.toNatClampNeg = fX3_score g l.toNatClampNeg := by
  have F := I.S.lo hl0 hl
  have G := tk_at (g := g) ht0 ht
  have z := I.S.cnt
  have sc := score_b I.S F.2
  have eb : fX3_score g l.toNatClampNeg + g 7 0 t.toNatClampNeg = fX3_score g l.toNatClampNeg := by rw [I.E.x6 G.2.2]; exact Int32.add_zero _
  have e : fX6_cup g l t = (0, fX3_score g l.toNatClampNeg, up g 6 l.toNatClampNeg t.toNatClampNeg (fX3_score g l.toNatClampNeg)) := by
    unfold fX6_cup
    rw [if_pos F.1, if_pos G.2.1, if_neg hi, eb]
  refine ⟨_, e, ⟨?_, ⟨fun j hj f h1 h2 => I.E.x1 hj h1 h2, fun i hi => I.E.x2 hi, fun i hi => I.E.x3 hi, fun i hi => I.E.x4 hi, fun i hi k hk => ?_, fun k hk => I.E.x6 hk⟩, I.B.up rfl, I.M.up (by omega) (by omega), I.P⟩, rfl, rfl, rfl⟩
  · have q : SY na nb nc nd (fX6_cup g l t).2.2 := by
      obtain ⟨m, h, hI, hT⟩ := I.S
      exact SY.of (P_cup (T := 0) h hI hT l t)
    rw [e] at q
    exact q
  · unfold up
    split
    · exact Or.inr sc
    · exact I.E.x5 hi hk
end OPS
