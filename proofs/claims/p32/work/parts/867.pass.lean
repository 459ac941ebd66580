/-! ===== hours keep the invariant ===== -/
section PA
variable {na nb nc nd : Nat} {g g1 g2 : Gd} {gn pr : Int32}
theorem mx80 (s : Int32) : 80 ≤ (if 80 < s then s else (80 : Int32)).toInt := by
  have e80 : (80 : Int32).toInt = 80 := rfl
  split
  · rename_i c; rw [lt_ti, e80] at c; omega
  · rw [e80]; omega
theorem dried_80 {i : Nat} {x tm wm : Int32} (hx : 80 ≤ x.toInt) : 80 ≤ (fX1_driedFrom g i x tm wm).toInt := by
  unfold fX1_driedFrom
  split
  · exact hx
  · split
    · split <;> exact mx80 _
    · exact hx
theorem rain_80 {x r : Int32} (hx : 80 ≤ x.toInt) (hx2 : x.toInt ≤ 600) (hr : 0 ≤ r.toInt) (hr2 : r.toInt ≤ 20) : 80 ≤ (if x + r < 600 then x + r else (600 : Int32)).toInt := by
  have e600 : (600 : Int32).toInt = 600 := rfl
  have e : (x + r).toInt = x.toInt + r.toInt := ti_add (by omega) (by omega)
  split
  · rw [e]; omega
  · rw [e600]; omega
theorem bed_l2 {i : Nat} {nm : Int32} (hnm : 80 ≤ nm.toInt) (x : bdE g i) (hk : ¬ g 3 (3 + i) 0 = 0) (hu : (g 3 (3 + i) 6).toInt + 1 ≤ (g 0 0 0).toInt) (hh : (g 0 0 0).toInt ≤ 20000) : bdE (up (up g 3 (3 + i) 5 nm) 3 (3 + i) 6 (g 3 (3 + i) 6 + 1)) i := by
  have e1 : (1 : Int32).toInt = 1 := rfl
  obtain ⟨x1, x2, x3, x4, x5⟩ := x
  have eu : (g 3 (3 + i) 6 + 1).toInt = (g 3 (3 + i) 6).toInt + 1 := by rw [ti_add (by rw [e1]; omega) (by rw [e1]; omega), e1]
  unfold bdE
  rw [up_nk (by decide), up_nk (by decide), up_nk (by decide), up_nk (by decide), up_nk (by decide), up_eq, up_nk (by decide), up_nk (by decide), up_nk (by decide), up_nk (by decide), up_eq, up_nt (by decide), up_nt (by decide), eu]
  exact ⟨x1, fun _ => hnm, fun w => absurd w hk, by omega, hu⟩
theorem bed_l3 {i : Nat} {nm v : Int32} (hnm : 80 ≤ nm.toInt) (x : bdE g i) (hk : ¬ g 3 (3 + i) 0 = 0) (hu : (g 3 (3 + i) 6).toInt + 1 ≤ (g 0 0 0).toInt) (hh : (g 0 0 0).toInt ≤ 20000) : bdE (up (up (up g 3 (3 + i) 5 nm) 3 (3 + i) 6 (g 3 (3 + i) 6 + 1)) 3 (3 + i) 7 v) i := by
  have q := bed_l2 hnm x hk hu hh
  unfold bdE at q ⊢
  rw [up_nk (k' := 0) (k := 7) (by decide), up_nk (k' := 8) (k := 7) (by decide), up_nk (k' := 5) (k := 7) (by decide), up_nk (k' := 4) (k := 7) (by decide), up_nk (k' := 3) (k := 7) (by decide), up_nk (k' := 6) (k := 7) (by decide), up_nt (t := 3) (t' := 0) (k := 7) (by decide)]
  exact q
def bed0 (g : Gd) (i : Nat) : Prop := (g 3 (3 + i) 6).toInt + 1 ≤ (g 0 0 0).toInt ∧ (g 3 (3 + i) 5).toInt ≤ 600
theorem passB_o (g : Gd) (i : Nat) (t w r : Int32) : only3 g (fX1_passHour g i t w r) (3 + i) := by
  unfold fX1_passHour
  repeat' split
  all_goals repeat (first | exact only3.rf | refine only3.upd ?_ (by decide) (by decide))
theorem passB_k (g : Gd) (i : Nat) (t w r : Int32) : fX1_passHour g i t w r 3 (3 + i) 0 = g 3 (3 + i) 0 ∧ ∀ f, fX1_passHour g i t w r 4 (3 + i) f = g 4 (3 + i) f := by
  unfold fX1_passHour
  repeat' split
  all_goals exact ⟨by simp [up], fun f => by simp [up]⟩
theorem passB_E {i : Nat} {t w r : Int32} (x : bdE g i) (b : bed0 g i) (hh : (g 0 0 0).toInt ≤ 20000) (hr : 0 ≤ r.toInt ∧ r.toInt ≤ 20) : bdE (fX1_passHour g i t w r) i := by
  by_cases hk : g 3 (3 + i) 0 = 0
  · have e : fX1_passHour g i t w r = g := by
      unfold fX1_passHour fX4_isEmpty
      rw [if_pos hk, if_neg (show ¬ (1 : Int32) = 0 by decide)]
    rw [e]; exact x
  · have hm := x.2.1 hk
    have hd : 80 ≤ (fX1_driedFrom g i (g 3 (3 + i) 5) t w).toInt := dried_80 hm
    have hn := rain_80 hm b.2 hr.1 hr.2
    unfold fX1_passHour fX4_isEmpty
    rw [if_neg hk, if_pos rfl]
    by_cases c1 : r ≤ 0
    · rw [if_pos c1]
      by_cases c2 : (g 3 (3 + i) 6 + 1) - (g 3 (3 + i) 6 + 1) / 12 * 12 = 0
      · rw [if_pos c2]
        by_cases c3 : fX1_driedFrom g i (g 3 (3 + i) 5) t w ≤ 250
        · rw [if_pos c3]; exact bed_l2 hd x hk b.1 hh
        · rw [if_neg c3]; exact bed_l3 hd x hk b.1 hh
      · rw [if_neg c2]; exact bed_l2 hd x hk b.1 hh
    · rw [if_neg c1]
      by_cases c4 : g 3 (3 + i) 9 = 0
      · rw [if_pos c4]
        by_cases c2 : (g 3 (3 + i) 6 + 1) - (g 3 (3 + i) 6 + 1) / 12 * 12 = 0
        · rw [if_pos c2]
          by_cases c3 : (if g 3 (3 + i) 5 + r < 600 then g 3 (3 + i) 5 + r else 600) ≤ 250
          · rw [if_pos c3]; exact bed_l2 hn x hk b.1 hh
          · rw [if_neg c3]; exact bed_l3 hn x hk b.1 hh
        · rw [if_neg c2]; exact bed_l2 hn x hk b.1 hh
      · rw [if_neg c4]
        by_cases c2 : (g 3 (3 + i) 6 + 1) - (g 3 (3 + i) 6 + 1) / 12 * 12 = 0
        · rw [if_pos c2]
          by_cases c3 : fX1_driedFrom g i (g 3 (3 + i) 5) t w ≤ 250
          · rw [if_pos c3]; exact bed_l2 hd x hk b.1 hh
          · rw [if_neg c3]; exact bed_l3 hd x hk b.1 hh
        · rw [if_neg c2]; exact bed_l2 hd x hk b.1 hh
/-- what an hour's steps keep -/
def HK (na nb nc nd : Nat) (gn pr : Int32) (ho : Int32) (g : Gd) : Prop := (E0 na nc g) ∧ (BAL g) ∧ (COIN g gn) ∧ (g 0 0 2 = pr) ∧ (g 0 0 0 = ho) ∧ (g 0 0 8 = nI nb) ∧ (g 0 0 9 = nI nc) ∧ (g 0 0 10 = nI nd)
theorem HK.E {na nb nc nd : Nat} {gn pr : Int32} {ho : Int32} {g : Gd} (h : HK na nb nc nd gn pr ho g) : E0 na nc g := h.1
theorem HK.B {na nb nc nd : Nat} {gn pr : Int32} {ho : Int32} {g : Gd} (h : HK na nb nc nd gn pr ho g) : BAL g := h.2.1
theorem HK.M {na nb nc nd : Nat} {gn pr : Int32} {ho : Int32} {g : Gd} (h : HK na nb nc nd gn pr ho g) : COIN g gn := h.2.2.1
theorem HK.P {na nb nc nd : Nat} {gn pr : Int32} {ho : Int32} {g : Gd} (h : HK na nb nc nd gn pr ho g) : g 0 0 2 = pr := h.2.2.2.1
theorem HK.hq {na nb nc nd : Nat} {gn pr : Int32} {ho : Int32} {g : Gd} (h : HK na nb nc nd gn pr ho g) : g 0 0 0 = ho := h.2.2.2.2.1
theorem HK.b {na nb nc nd : Nat} {gn pr : Int32} {ho : Int32} {g : Gd} (h : HK na nb nc nd gn pr ho g) : g 0 0 8 = nI nb := h.2.2.2.2.2.1
theorem HK.c {na nb nc nd : Nat} {gn pr : Int32} {ho : Int32} {g : Gd} (h : HK na nb nc nd gn pr ho g) : g 0 0 9 = nI nc := h.2.2.2.2.2.2.1
theorem HK.d {na nb nc nd : Nat} {gn pr : Int32} {ho : Int32} {g : Gd} (h : HK na nb nc nd gn pr ho g) : g 0 0 10 = nI nd := h.2.2.2.2.2.2.2
theorem HK.o3 {h : Int32} (H : HK na nb nc nd gn pr h g) {j : Nat} (o : only3 g g2 j) (E : E0 na nc g2) (B : Qs g2 = Qs g) : HK na nb nc nd gn pr h g2 := by
  refine ⟨E, BAL.iff.mpr ?_, H.M.o3 o, (o 0 0 2 (by omega)).trans H.P, (o 0 0 0 (by omega)).trans H.hq, (o 0 0 8 (by omega)).trans H.b, (o 0 0 9 (by omega)).trans H.c, (o 0 0 10 (by omega)).trans H.d⟩
  rw [B, ev_cg (g := g) (fun k _ => o 1 k 3 (by omega))]
  exact BAL.iff.mp H.B
theorem HK.tank {h w : Int32} (H : HK na nb nc nd gn pr h g) (hn : nc ≤ 5) {i : Nat} (hi : i < 3) : HK na nb nc nd gn pr h (fX5_passHour g i w) ∧ only3 g (fX5_passHour g i w) i := by
  by_cases hk : g 3 i 0 = 0
  · have e : fX5_passHour g i w = g := by
      unfold fX5_passHour fX4_isEmpty
      rw [if_pos hk, if_neg (show ¬ (1 : Int32) = 0 by decide)]
    rw [e]; exact ⟨H, only3.rf⟩
  · have e : fX5_passHour g i w = up (up g 3 i 2 (g 3 i 2 + 1)) 3 i 3 (g 3 i 3 + fX5_pointsAnHour (g 3 i 0) w) := by
      unfold fX5_passHour fX4_isEmpty
      rw [if_neg hk, if_pos rfl]
    rw [e]
    have o : only3 g (up (up g 3 i 2 (g 3 i 2 + 1)) 3 i 3 (g 3 i 3 + fX5_pointsAnHour (g 3 i 0) w)) i := (only3.rf.upd (by decide) (by decide)).upd (by decide) (by decide)
    have ek : up (up g 3 i 2 (g 3 i 2 + 1)) 3 i 3 (g 3 i 3 + fX5_pointsAnHour (g 3 i 0) w) 3 i 0 = g 3 i 0 := by rw [up_nk (by decide), up_nk (by decide)]
    refine ⟨H.o3 o (H.E.row hn o (fun f h1 h2 h3 => ?_) (fun j hj q => ?_) (fun j hj q => absurd q (by omega))) ?_, o⟩
    · rw [up_nt (by decide), up_nt (by decide)]; exact H.E.x1 h3 h1 h2
    · subst q
      intro q
      rw [ek] at q
      exact absurd q hk
    · rw [Qs.tk o hi, ek]; grind
theorem HK.beds {h w r : Int32} {q0 : Gd} (hn : nc ≤ 5) (hh : h.toInt ≤ 20000) (hr : 0 ≤ r.toInt ∧ r.toInt ≤ 20) : ∀ (n k : Nat) (g1 : Gd), nc < k + n → k ≤ nc → HK na nb nc nd gn pr h g1 → (∀ i, k ≤ i → i < nc → bed0 g1 i) → HK na nb nc nd gn pr h (fX6_passOneHour_L44 q0 w r n k g1) := by
  intro n
  induction n with
  | zero => intro k g1 h1 h2; exact absurd h1 (by omega)
  | succ n ih =>
    intro k g1 h1 h2 H hb
    rw [fX6_passOneHour_L44, H.c]
    by_cases c : nc ≤ k
    · rw [if_pos ((nle (by omega) (by omega)).mpr c)]; exact H
    · rw [if_neg (fun q => c ((nle (by omega) (by omega)).mp q))]
      have o := passB_o g1 k (g1 0 0 0) w r
      have pk := passB_k g1 k (g1 0 0 0) w r
      have hk : k < nc := by omega
      refine ih (k + 1) _ (by omega) (by omega) (H.o3 o (H.E.row hn o (fun f f1 f2 f3 => ?_) (fun j hj q => absurd q (by omega)) (fun j hj q => ?_)) ?_) (fun i i1 i2 => ?_)
      · rw [pk.2 f]; exact H.E.x1 f3 f1 f2
      · have q : j = k := by omega
        subst q
        exact passB_E (H.E.x3 hk) (hb j (Nat.le_refl j) hk) (by rw [H.hq]; exact hh) hr
      · rw [Qs.bd o (by omega), pk.1]; grind
      · unfold bed0
        rw [o 3 (3 + i) 6 (by omega), o 3 (3 + i) 5 (by omega), o 0 0 0 (by omega)]
        exact hb i (by omega) i2
theorem HK.lots {h : Int32} {q0 : Gd} (hn : nc ≤ 5) (hd : nd ≤ 12) : ∀ (n k : Nat) (g1 : Gd), nd < k + n → k ≤ nd → HK na nb nc nd gn pr h g1 → HK na nb nc nd gn pr h (fX6_ageLots_L2 q0 n k g1) := by
  intro n
  induction n with
  | zero => intro k g1 h1 h2; exact absurd h1 (by omega)
  | succ n ih =>
    intro k g1 h1 h2 H
    rw [fX6_ageLots_L2, H.d]
    by_cases c : nd ≤ k
    · rw [if_pos ((nle (by omega) (by omega)).mpr c)]; exact H
    · rw [if_neg (fun q => c ((nle (by omega) (by omega)).mp q))]
      split
      · exact ih _ _ (by omega) (by omega) H
      · have o : only3 g1 (up g1 3 (8 + k) 2 (g1 3 (8 + k) 2 + 1)) (8 + k) := only3_up
        refine ih _ _ (by omega) (by omega) (H.o3 o (H.E.row hn o (fun f f1 f2 f3 => ?_) (fun j hj q => absurd q (by omega)) (fun j hj q => absurd q (by omega))) (Qs.n (by simp [irq])))
        rw [up_nt (by decide)]; exact H.E.x1 f3 f1 f2
theorem HK.sp {h : Int32} (H : HK na nb nc nd gn pr h g) (hn : nc ≤ 5) {b : Nat} (hb : b < 20) : ((fX0_spoilsInHour g b).1 = 0 ∧ HK na nb nc nd gn pr h (fX0_spoilsInHour g b).2 ∧ ∀ t i c, ¬ t = 2 → ¬ t = 0 → (fX0_spoilsInHour g b).2 t i c = g t i c) ∨ (¬ (fX0_spoilsInHour g b).1 = 0 ∧ HK na nb nc nd gn pr h (up (fX0_spoilsInHour g b).2 0 0 5 ((fX0_spoilsInHour g b).2 0 0 5 + (fX0_spoilsInHour g b).2 2 b 1)) ∧ ∀ t i c, ¬ t = 2 → ¬ t = 0 → up (fX0_spoilsInHour g b).2 0 0 5 ((fX0_spoilsInHour g b).2 0 0 5 + (fX0_spoilsInHour g b).2 2 b 1) t i c = g t i c) := by
  have e1 : (1 : Int32).toInt = 1 := rfl
  have e24 : (24 : Int32).toInt = 24 := rfl
  have e25 : (25 : Int32).toInt = 25 := rfl
  obtain ⟨x1, x2, x3, x4⟩ := H.E.x4 hb
  have ea : (g 2 b 4 + 1).toInt = (g 2 b 4).toInt + 1 := by rw [ti_add (by rw [e1]; omega) (by rw [e1]; omega), e1]
  unfold fX0_spoilsInHour
  by_cases c : g 2 b 3 = 0
  · have a24 := x3 c
    rw [if_pos c]
    by_cases d : 24 < g 2 b 4 + 1
    · rw [if_pos d]
      refine Or.inr ⟨(show ¬ (1 : Int32) = 0 by decide), ?_, fun t i c h1 h2 => ?_⟩
      · rw [lt_ti, e24, ea] at d
        have a25 : g 2 b 4 + 1 = 25 := ti_eq (by rw [ea, e25]; omega)
        let s : Gd := up (up g 2 b 4 (g 2 b 4 + 1)) 2 b 3 3
        have hs : ∀ t i k, ¬ (t = 2 ∧ i = b ∧ (k = 3 ∨ k = 4)) → s t i k = g t i k := fun t i k h => by
          show up (up g 2 b 4 _) 2 b 3 3 t i k = _
          rw [up_ne (by omega), up_ne (by omega)]
        have s3 : s 2 b 3 = 3 := up_eq _ _ _ _ _
        have s4 : s 2 b 4 = 25 := by
          show up (up g 2 b 4 _) 2 b 3 3 2 b 4 = _
          rw [up_nk (by decide), up_eq, a25]
        show HK na nb nc nd gn pr h (up s 0 0 5 (s 0 0 5 + s 2 b 1))
        have Es : E0 na nc s := H.E.b (j := b) (fun t i k h1 h2 h3 => hs t i k (fun w => h1 ⟨w.1, w.2.1⟩)) (by
          unfold bkE
          rw [s3, s4]
          exact ⟨by decide, by decide, fun w => absurd w (by decide), fun _ => rfl⟩)
        refine ⟨E0.up Es hn rfl, BAL.iff.mpr ?_, ?_, ?_, ?_, ?_, ?_, ?_⟩
        · have q1 : Qs s = Qs g + (wt s b - wt g b) := Qs.b hb (fun t i k h _ => hs t i k (fun w => h ⟨w.1, w.2.1⟩)) (hs _ _ _ (by omega)) (hs _ _ _ (by omega))
          have q2 : Qs (up s 0 0 5 (s 0 0 5 + s 2 b 1)) = Qs s + ((s 0 0 5 + s 2 b 1) - s 0 0 5) := Qs.l5
          have w1 : wt s b = 0 := by unfold wt; rw [s3]; exact if_neg (by decide)
          have w0 : wt g b = g 2 b 1 := if_pos c
          have k1 : s 2 b 1 = g 2 b 1 := hs _ _ _ (by omega)
          have s9 : sm (evr (up s 0 0 5 (s 0 0 5 + s 2 b 1))) 6 = sm (evr g) 6 := ev_cg (fun k _ => by rw [up_nt (by decide)]; exact hs _ _ _ (by omega))
          rw [s9, q2, q1, w1, w0, k1, BAL.iff.mp H.B]
          grind
        · exact COIN.up (H.M.cg (hs _ _ _ (by omega)) (fun i _ => hs _ _ _ (by omega))) (by omega) (by omega)
        · rw [up_nk (by decide), hs 0 0 2 (by omega)]; exact H.P
        · rw [up_nk (by decide), hs 0 0 0 (by omega)]; exact H.hq
        · rw [up_nk (by decide), hs 0 0 8 (by omega)]; exact H.b
        · rw [up_nk (by decide), hs 0 0 9 (by omega)]; exact H.c
        · rw [up_nk (by decide), hs 0 0 10 (by omega)]; exact H.d
      · dsimp only
        rw [up_nt h2, up_nt h1, up_nt h1]
    · rw [if_neg d]
      refine Or.inl ⟨rfl, ?_, fun t i c h1 h2 => ?_⟩
      · rw [lt_ti, e24, ea] at d
        have hs : ∀ t i k, ¬ (t = 2 ∧ i = b ∧ k = 4) → up g 2 b 4 (g 2 b 4 + 1) t i k = g t i k := fun t i k h => up_ne h
        refine ⟨H.E.b (j := b) (fun t i k h1 h2 h3 => hs t i k (fun w => h1 ⟨w.1, w.2.1⟩)) ?_, BAL.iff.mpr ?_, COIN.cg (g2 := up g 2 b 4 (g 2 b 4 + 1)) H.M (hs 0 0 1 (by omega)) (fun i _ => hs 1 i 2 (by omega)), (hs 0 0 2 (by omega)).trans H.P, (hs 0 0 0 (by omega)).trans H.hq, (hs 0 0 8 (by omega)).trans H.b, (hs 0 0 9 (by omega)).trans H.c, (hs 0 0 10 (by omega)).trans H.d⟩
        · unfold bkE
          dsimp only
          rw [up_eq, up_nk (by decide), ea, c]
          exact ⟨by omega, by omega, fun _ => by omega, fun w => absurd w (by decide)⟩
        · dsimp only
          rw [Qs.n (by simp [irq]), ev_cg (g := g) (fun k _ => hs 1 k 3 (by omega))]
          exact BAL.iff.mp H.B
      · exact up_nt h1
  · rw [if_neg c]
    exact Or.inl ⟨rfl, H, fun _ _ _ _ _ => rfl⟩
theorem HK.bask {h : Int32} {q0 : Gd} (hn : nc ≤ 5) (hb : nb ≤ 20) : ∀ (n k : Nat) (a : Int32) (g1 : Gd), nb < k + n → k ≤ nb → 0 ≤ a.toInt → a.toInt ≤ k → HK na nb nc nd gn pr h g1 → HK na nb nc nd gn pr h (fX6_ageBaskets_L4 q0 n k a g1).2 ∧ (∀ t i c, ¬ t = 2 → ¬ t = 0 → (fX6_ageBaskets_L4 q0 n k a g1).2 t i c = g1 t i c) ∧ 0 ≤ (fX6_ageBaskets_L4 q0 n k a g1).1.toInt ∧ (fX6_ageBaskets_L4 q0 n k a g1).1.toInt ≤ 20 := by
  intro n
  induction n with
  | zero => intro k a g1 h1 h2; exact absurd h1 (by omega)
  | succ n ih =>
    intro k a g1 h1 h2 a0 a1 H
    have e1 : (1 : Int32).toInt = 1 := rfl
    rw [fX6_ageBaskets_L4, H.b]
    by_cases c : nb ≤ k
    · rw [if_pos ((nle (by omega) (by omega)).mpr c)]; exact ⟨H, fun _ _ _ _ _ => rfl, a0, by dsimp only; omega⟩
    · rw [if_neg (fun q => c ((nle (by omega) (by omega)).mp q))]
      rcases H.sp hn (b := k) (by omega) with ⟨s1, s2, s3⟩ | ⟨s1, s2, s3⟩
      · rw [if_pos s1]
        obtain ⟨q1, q2, q3⟩ := ih (k + 1) a _ (by omega) (by omega) a0 (by omega) s2
        exact ⟨q1, fun t i c h3 h4 => (q2 t i c h3 h4).trans (s3 t i c h3 h4), q3⟩
      · rw [if_neg s1]
        have ea : (a + 1).toInt = a.toInt + 1 := by rw [ti_add (by rw [e1]; omega) (by rw [e1]; omega), e1]
        obtain ⟨q1, q2, q3⟩ := ih (k + 1) (a + 1) _ (by omega) (by omega) (by rw [ea]; omega) (by rw [ea]; omega) s2
        exact ⟨q1, fun t i c h3 h4 => (q2 t i c h3 h4).trans (s3 t i c h3 h4), q3⟩
theorem HK.lots1 {h : Int32} (H : HK na nb nc nd gn pr h g) (hn : nc ≤ 5) (hd : nd ≤ 12) : HK na nb nc nd gn pr h (fX6_ageLots g) := by
  unfold fX6_ageLots
  exact HK.lots hn hd 13 0 g (by omega) (by omega) H
theorem HK.bask1 {h : Int32} (H : HK na nb nc nd gn pr h g) (hn : nc ≤ 5) (hb : nb ≤ 20) : HK na nb nc nd gn pr h (fX6_ageBaskets g).2 ∧ (∀ t i c, ¬ t = 2 → ¬ t = 0 → (fX6_ageBaskets g).2 t i c = g t i c) ∧ 0 ≤ (fX6_ageBaskets g).1.toInt ∧ (fX6_ageBaskets g).1.toInt ≤ 20 := by
  unfold fX6_ageBaskets
  exact HK.bask hn hb 21 0 0 g (by omega) (by omega) (by decide) (by decide) H
def hrT (s : Gd) (w : Int32) : Gd := fX5_passHour (fX5_passHour (fX5_passHour (fX6_ageBaskets s).2 0 w) 1 w) 2 w
def hrB (g s : Gd) (w r : Int32) : Gd := fX6_passOneHour_L44 g w r 6 0 (hrT s w)
theorem hour_form (g : Gd) (w r : Int32) : fX6_passOneHour g w r = if (hrB g (up g 0 0 0 (g 0 0 0 + 1)) w r 0 0 0 - hrB g (up g 0 0 0 (g 0 0 0 + 1)) w r 0 0 0 / 24 * 24) = 0 then ((fX6_ageBaskets (up g 0 0 0 (g 0 0 0 + 1))).1, fX6_ageLots (hrB g (up g 0 0 0 (g 0 0 0 + 1)) w r)) else ((fX6_ageBaskets (up g 0 0 0 (g 0 0 0 + 1))).1, hrB g (up g 0 0 0 (g 0 0 0 + 1)) w r) := by
  unfold fX6_passOneHour hrB hrT
  rfl
theorem hour_ok (I : IV na nb nc nd gn pr g) {w r : Int32} (hw : 0 ≤ w.toInt ∧ w.toInt ≤ 40) (hr : 0 ≤ r.toInt ∧ r.toInt ≤ 20) (hh : (g 0 0 0).toInt + 1 ≤ 20000) : IV na nb nc nd gn pr (fX6_passOneHour g w r).2 ∧ ((fX6_passOneHour g w r).2 0 0 0).toInt = (g 0 0 0).toInt + 1 ∧ 0 ≤ (fX6_passOneHour g w r).1.toInt ∧ (fX6_passOneHour g w r).1.toInt ≤ 20 := by
  have z := I.S.cnt
  have h0 := I.S.hr
  have e1 : (1 : Int32).toInt = 1 := rfl
  have eh : (g 0 0 0 + 1).toInt = (g 0 0 0).toInt + 1 := by rw [ti_add (by rw [e1]; omega) (by rw [e1]; omega), e1]
  have S2 : SY na nb nc nd (fX6_passOneHour g w r).2 := by
    obtain ⟨m, h, hI, hT⟩ := I.S
    have q := P_hour (T := 0) h hI hT hw hr (by rw [← h.s (by decide)]; exact hh)
    exact ⟨_, q.2.1, q.2.2.1, q.2.2.2.1⟩
  rw [hour_form] at S2 ⊢
  have hs0 : up g 0 0 0 (g 0 0 0 + 1) 0 0 0 = g 0 0 0 + 1 := up_eq _ _ _ _ _
  have hs1 : ∀ t i k, ¬ (t = 0 ∧ i = 0 ∧ k = 0) → up g 0 0 0 (g 0 0 0 + 1) t i k = g t i k := fun t i k h => up_ne h
  have hsQ : Qs (up g 0 0 0 (g 0 0 0 + 1)) = Qs g := Qs.n rfl
  generalize up g 0 0 0 (g 0 0 0 + 1) = s1 at *
  have H1 : HK na nb nc nd gn pr (g 0 0 0 + 1) s1 := by
    refine ⟨⟨fun j hj f f1 f2 => ?_, fun i hi => ?_, fun i hi => ?_, fun i hi => ?_, fun i hi k hk => ?_, fun k hk => ?_⟩, BAL.iff.mpr ?_, COIN.cg (g2 := s1) I.M (hs1 0 0 1 (by omega)) (fun i _ => hs1 1 i 2 (by omega)), (hs1 0 0 2 (by omega)).trans I.P, hs0, (hs1 0 0 8 (by omega)).trans I.S.b, (hs1 0 0 9 (by omega)).trans I.S.c, (hs1 0 0 10 (by omega)).trans I.S.d⟩
    · rw [hs1 4 j f (by omega)]; exact I.E.x1 hj f1 f2
    · unfold tkE
      rw [hs1 3 i 0 (by omega), hs1 3 i 1 (by omega), hs1 3 i 2 (by omega), hs1 3 i 3 (by omega)]
      exact I.E.x2 hi
    · obtain ⟨x1, x2, x3, x4, x5⟩ := I.E.x3 hi
      unfold bdE
      rw [hs1 3 (3 + i) 0 (by omega), hs1 3 (3 + i) 8 (by omega), hs1 3 (3 + i) 5 (by omega), hs1 3 (3 + i) 4 (by omega), hs1 3 (3 + i) 3 (by omega), hs1 3 (3 + i) 6 (by omega), hs0, eh]
      exact ⟨x1, x2, x3, x4, by omega⟩
    · unfold bkE
      rw [hs1 2 i 3 (by omega), hs1 2 i 4 (by omega)]
      exact I.E.x4 hi
    · rw [hs1 6 i k (by omega)]; exact I.E.x5 hi hk
    · rw [hs1 7 0 k (by omega)]; exact I.E.x6 hk
    · rw [hsQ, ev_cg (g := g) (fun k _ => hs1 1 k 3 (by omega))]; exact BAL.iff.mp I.B
  obtain ⟨H2, o2, a0, a1⟩ := H1.bask1 z.2.2.1 z.2.1
  obtain ⟨H3, o3⟩ := H2.tank (w := w) z.2.2.1 (i := 0) (by decide)
  obtain ⟨H4, o4⟩ := H3.tank (w := w) z.2.2.1 (i := 1) (by decide)
  obtain ⟨H5, o5⟩ := H4.tank (w := w) z.2.2.1 (i := 2) (by decide)
  have hb : ∀ i, 0 ≤ i → i < nc → bed0 (hrT s1 w) i := fun i _ hi => by
    have y := (I.S.bedv hi).2.2.2.1
    have x := (I.E.x3 hi).2.2.2
    have r3 : ∀ c, hrT s1 w 3 (3 + i) c = g 3 (3 + i) c := fun c => by
      unfold hrT
      rw [o5 3 (3 + i) c (by omega), o4 3 (3 + i) c (by omega), o3 3 (3 + i) c (by omega), o2 3 (3 + i) c (by decide) (by decide), hs1 3 (3 + i) c (by omega)]
    unfold bed0
    rw [r3, r3, show hrT s1 w 0 0 0 = g 0 0 0 + 1 from H5.hq, eh]
    omega
  have H6 : HK na nb nc nd gn pr (g 0 0 0 + 1) (hrB g s1 w r) := HK.beds z.2.2.1 (by rw [eh]; exact hh) hr 6 0 (hrT s1 w) (by omega) (by omega) H5 hb
  generalize hrB g s1 w r = X at *
  generalize fX6_ageBaskets s1 = Y at *
  by_cases c : (X 0 0 0 - X 0 0 0 / 24 * 24) = 0
  · rw [if_pos c] at S2 ⊢
    have H7 := H6.lots1 z.2.2.1 z.2.2.2
    exact ⟨⟨S2, H7.E, H7.B, H7.M, H7.P⟩, by rw [show (Y.1, fX6_ageLots X).2 0 0 0 = _ from H7.hq]; exact eh, a0, a1⟩
  · rw [if_neg c] at S2 ⊢
    exact ⟨⟨S2, H6.E, H6.B, H6.M, H6.P⟩, by rw [show (Y.1, X).2 0 0 0 = _ from H6.hq]; exact eh, a0, a1⟩
theorem pass_l {hc w r : Int32} {N : Nat} {q0 : Gd} (hN : hc = nI N) (hN2 : N ≤ 100) (hw : 0 ≤ w.toInt ∧ w.toInt ≤ 40) (hr : 0 ≤ r.toInt ∧ r.toInt ≤ 20) : ∀ (n k : Nat) (a : Int32) (g1 : Gd), N < k + n → k ≤ N → 0 ≤ a.toInt → a.toInt ≤ 20 * k → IV na nb nc nd gn pr g1 → (g1 0 0 0).toInt + (N - k) ≤ 20000 → IV na nb nc nd gn pr (fX6_pass_L69 q0 hc w r n k a g1).2 ∧ ((fX6_pass_L69 q0 hc w r n k a g1).2 0 0 0).toInt = (g1 0 0 0).toInt + (N - k) ∧ 0 ≤ (fX6_pass_L69 q0 hc w r n k a g1).1.toInt := by
  intro n
  induction n with
  | zero => intro k a g1 h1 h2; exact absurd h1 (by omega)
  | succ n ih =>
    intro k a g1 h1 h2 a0 a1 I hh
    rw [fX6_pass_L69, hN]
    by_cases c : N ≤ k
    · rw [if_pos ((nle (by omega) (by omega)).mpr c)]
      exact ⟨I, by dsimp only; omega, a0⟩
    · rw [if_neg (fun q => c ((nle (by omega) (by omega)).mp q)), ← hN]
      obtain ⟨q1, q2, q3, q4⟩ := hour_ok I hw hr (by omega)
      have ea : (a + (fX6_passOneHour g1 w r).1).toInt = a.toInt + (fX6_passOneHour g1 w r).1.toInt := ti_add (by omega) (by omega)
      obtain ⟨p1, p2, p3⟩ := ih (k + 1) (a + (fX6_passOneHour g1 w r).1) _ (by omega) (by omega) (by rw [ea]; omega) (by rw [ea]; omega) q1 (by rw [q2]; omega)
      exact ⟨p1, by rw [p2, q2]; omega, p3⟩
theorem o_pass (I : IV na nb nc nd gn pr g) {h w r : Int32} (h1 : 1 ≤ h.toInt ∧ h.toInt ≤ 100) (hw : 0 ≤ w.toInt ∧ w.toInt ≤ 40) (hr : 0 ≤ r.toInt ∧ r.toInt ≤ 20) (hh : (g 0 0 0).toInt + h.toInt ≤ 20000) : ∃ (v : Int32) (g2 : Gd), fX6_pass g h w r = (0, v, g2) ∧ ¬ v < 0 ∧ IV na nb nc nd gn pr g2 ∧ g2 0 0 0 = g 0 0 0 + h := by
  have h0 := I.S.hr
  have e0 : (0 : Int32).toInt = 0 := rfl
  have e1 : (1 : Int32).toInt = 1 := rfl
  have e20 : (20 : Int32).toInt = 20 := rfl
  have e40 : (40 : Int32).toInt = 40 := rfl
  have e100 : (100 : Int32).toInt = 100 := rfl
  have ek : (20000 : Int32).toInt = 20000 := rfl
  have eh : (g 0 0 0 + h).toInt = (g 0 0 0).toInt + h.toInt := ti_add (by omega) (by omega)
  obtain ⟨N, hN⟩ : ∃ N : Nat, h.toInt = N := ⟨h.toInt.toNat, by omega⟩
  have hc : h = nI N := ti_eq (by rw [ti_nI (by omega)]; exact hN)
  obtain ⟨p1, p2, p3⟩ := pass_l (q0 := g) hc (by omega) hw hr 101 0 0 g (by omega) (by omega) (by decide) (by decide) I (by omega)
  refine ⟨(fX6_pass_L69 g h w r 101 0 0 g).1, (fX6_pass_L69 g h w r 101 0 0 g).2, ?_, by rw [lt_ti, e0]; omega, p1, ti_eq (by rw [p2, eh]; omega)⟩
  unfold fX6_pass
  rw [if_neg (show ¬ h < 1 by rw [lt_ti, e1]; omega), if_neg (show ¬ 100 < h by rw [lt_ti, e100]; omega), if_neg (show ¬ w < 0 by rw [lt_ti, e0]; omega), if_neg (show ¬ 40 < w by rw [lt_ti, e40]; omega), if_neg (show ¬ r < 0 by rw [lt_ti, e0]; omega), if_pos (show r ≤ 20 by rw [le_ti, e20]; omega), if_pos (show g 0 0 0 + h ≤ 20000 by rw [le_ti, eh, ek]; exact hh)]
end PA
