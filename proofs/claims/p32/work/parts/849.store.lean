/-! ===== store ===== -/
def stA (T : Nat) (g : Md) (r : Nat) (dv : Int32) : Md := (u2 (u2 (u2 (u2 (u2 (u2 (u2 (u2 (u2 (u2 (u2 (u2 (rz (u2 g 0 20 0) (400 + T) (fun _ => 0)) (400 + T) 11 (((u2 g 0 20 0) r 11) / dv)) (400 + T) 12 (((u2 g 0 20 0) r 12) / dv)) (400 + T) 13 (((u2 g 0 20 0) r 13) / dv)) (400 + T) 14 (((u2 g 0 20 0) r 14) / dv)) (400 + T) 15 (((u2 g 0 20 0) r 15) / dv)) (400 + T) 16 (((u2 g 0 20 0) r 16) / dv)) (400 + T) 17 (((u2 g 0 20 0) r 17) / dv)) (400 + T) 18 (((u2 g 0 20 0) r 18) / dv)) (400 + T) 19 (((u2 g 0 20 0) r 19) / dv)) (400 + T) 20 (((u2 g 0 20 0) r 20) / dv)) (400 + T) 21 (((u2 g 0 20 0) r 21) / dv)) (400 + T) 22 (((u2 g 0 20 0) r 22) / dv))
def stB (na nb nc nd T : Nat) (g : Md) (r : Nat) (dv : Int32) : Md := (u2 (u2 (u2 (u2 (u2 (u2 (u2 (stA T g r dv) (400 + T) 0 (fX7_sum na nb nc nd (T + 1) (stA T g r dv) (400 + T) 11)) (400 + T) 1 ((u2 g 0 20 0) r 1)) (400 + T) 4 ((u2 g 0 20 0) r 4)) (400 + T) 3 ((u2 g 0 20 0) r 3)) (400 + T) 7 ((u2 g 0 20 0) r 7)) (400 + T) 5 ((u2 g 0 20 0) r 5)) (400 + T) 10 1)
def stM (na nb nc nd T : Nat) (g : Md) (r : Nat) (dv : Int32) : Md := (rz (fX7_forget na nb nc nd (T + 1) (stB na nb nc nd T g r dv) (nI nd)) (rb 3 + nd) (fun j => (fX7_forget na nb nc nd (T + 1) (stB na nb nc nd T g r dv) (nI nd)) (400 + T) j))
theorem store_form (na nb nc nd T : Nat) (g : Md) (x : Int32) : fX7_store na nb nc nd T g x = if (fX7_isBed na nb nc nd T (u2 g 0 20 0) x) = 0 then (((fX7_refuse na nb nc nd T (u2 g 0 20 0) 1).1, (fX7_refuse na nb nc nd T (u2 g 0 20 0) 1).2, 0)) else (if ((u2 g 0 20 0) (303 + x.toNatClampNeg) 4) = 2 then (if (fX7_sum na nb nc nd (T + 1) (stA T g (303 + x.toNatClampNeg) 3) (400 + T) 11) = 0 then (((fX7_refuse na nb nc nd (T + 1) (u2 (stA T g (303 + x.toNatClampNeg) 3) (400 + T) 0 (fX7_sum na nb nc nd (T + 1) (stA T g (303 + x.toNatClampNeg) 3) (400 + T) 11)) 2).1, (u2 (u2 g 0 20 0) 0 20 2), 0)) else (if (nI nd) = 12 then (((fX7_refuse na nb nc nd (T + 1) (u2 (stA T g (303 + x.toNatClampNeg) 3) (400 + T) 0 (fX7_sum na nb nc nd (T + 1) (stA T g (303 + x.toNatClampNeg) 3) (400 + T) 11)) 2).1, (u2 (u2 g 0 20 0) 0 20 2), 0)) else (((nI (nd + 1)) - 1, fX7_empty na nb nc (nd + 1) T (u2 (stM na nb nc nd T g (303 + x.toNatClampNeg) 3) 0 5 (((stM na nb nc nd T g (303 + x.toNatClampNeg) 3) 0 5) + (((stM na nb nc nd T g (303 + x.toNatClampNeg) 3) (303 + x.toNatClampNeg) 0) - ((stM na nb nc nd T g (303 + x.toNatClampNeg) 3) (308 + nd) 0)))) (303 + x.toNatClampNeg), 1)))) else (if (fX7_sum na nb nc nd (T + 1) (stA T g (303 + x.toNatClampNeg) 2) (400 + T) 11) = 0 then (((fX7_refuse na nb nc nd (T + 1) (u2 (stA T g (303 + x.toNatClampNeg) 2) (400 + T) 0 (fX7_sum na nb nc nd (T + 1) (stA T g (303 + x.toNatClampNeg) 2) (400 + T) 11)) 2).1, (u2 (u2 g 0 20 0) 0 20 2), 0)) else (if (nI nd) = 12 then (((fX7_refuse na nb nc nd (T + 1) (u2 (stA T g (303 + x.toNatClampNeg) 2) (400 + T) 0 (fX7_sum na nb nc nd (T + 1) (stA T g (303 + x.toNatClampNeg) 2) (400 + T) 11)) 2).1, (u2 (u2 g 0 20 0) 0 20 2), 0)) else (((nI (nd + 1)) - 1, fX7_empty na nb nc (nd + 1) T (u2 (stM na nb nc nd T g (303 + x.toNatClampNeg) 2) 0 5 (((stM na nb nc nd T g (303 + x.toNatClampNeg) 2) 0 5) + (((stM na nb nc nd T g (303 + x.toNatClampNeg) 2) (303 + x.toNatClampNeg) 0) - ((stM na nb nc nd T g (303 + x.toNatClampNeg) 2) (308 + nd) 0)))) (303 + x.toNatClampNeg), 1))))) := rfl
section SR
variable {na nb nc nd T : Nat} {g g2 : Gd} {m m2 : Md}
theorem stA_at {r : Nat} {dv : Int32} (hr : r ≠ 0) : ∀ k, k < 23 → stA T m r dv (400 + T) k = if 11 ≤ k then m r k / dv else 0 := by
  have u : ∀ k, u2 m 0 20 0 r k = m r k := fun k => u2_nr hr
  refine all23 ?_ ?_ ?_ ?_ ?_ ?_ ?_ ?_ ?_ ?_ ?_ ?_ ?_ ?_ ?_ ?_ ?_ ?_ ?_ ?_ ?_ ?_ ?_ <;> simp only [stA, u] <;> simp [u2, rz]
theorem stA_nr {r r2 k : Nat} {dv : Int32} (h : r2 ≠ 400 + T) : stA T m r dv r2 k = u2 m 0 20 0 r2 k := by
  unfold stA
  rw [u2_nr h, u2_nr h, u2_nr h, u2_nr h, u2_nr h, u2_nr h, u2_nr h, u2_nr h, u2_nr h, u2_nr h, u2_nr h, u2_nr h, rz_nr h]
theorem stB_at {r : Nat} {dv : Int32} (hr : r ≠ 0) : ∀ k, k < 23 → stB na nb nc nd T m r dv (400 + T) k = if k = 10 then 1 else if k = 5 then m r 5 else if k = 7 then m r 7 else if k = 3 then m r 3 else if k = 4 then m r 4 else if k = 1 then m r 1 else if k = 0 then (((((0 + m r 11 / dv) + m r 12 / dv) + m r 13 / dv) + m r 14 / dv) + m r 15 / dv) + m r 16 / dv else if 11 ≤ k then m r k / dv else 0 := by
  intro k hk
  have u : ∀ k, u2 m 0 20 0 r k = m r k := fun k => u2_nr hr
  have hs : fX7_sum na nb nc nd (T + 1) (stA T m r dv) (400 + T) 11 = (((((0 + m r 11 / dv) + m r 12 / dv) + m r 13 / dv) + m r 14 / dv) + m r 15 / dv) + m r 16 / dv := by
    have q : fX7_sum na nb nc nd (T + 1) (stA T m r dv) (400 + T) 11 = (((((0 + stA T m r dv (400 + T) 11) + stA T m r dv (400 + T) 12) + stA T m r dv (400 + T) 13) + stA T m r dv (400 + T) 14) + stA T m r dv (400 + T) 15) + stA T m r dv (400 + T) 16 := rfl
    rw [q, stA_at hr 11 (by decide), stA_at hr 12 (by decide), stA_at hr 13 (by decide), stA_at hr 14 (by decide), stA_at hr 15 (by decide), stA_at hr 16 (by decide)]
    rfl
  unfold stB
  rw [hs]
  by_cases q1 : k = 10
  · subst q1; rw [u2_eq, if_pos rfl]
  · rw [u2_nk q1, if_neg q1]
    by_cases q2 : k = 5
    · subst q2; rw [u2_eq, if_pos rfl, u]
    · rw [u2_nk q2, if_neg q2]
      by_cases q3 : k = 7
      · subst q3; rw [u2_eq, if_pos rfl, u]
      · rw [u2_nk q3, if_neg q3]
        by_cases q4 : k = 3
        · subst q4; rw [u2_eq, if_pos rfl, u]
        · rw [u2_nk q4, if_neg q4]
          by_cases q5 : k = 4
          · subst q5; rw [u2_eq, if_pos rfl, u]
          · rw [u2_nk q5, if_neg q5]
            by_cases q6 : k = 1
            · subst q6; rw [u2_eq, if_pos rfl, u]
            · rw [u2_nk q6, if_neg q6]
              by_cases q7 : k = 0
              · subst q7; rw [u2_eq, if_pos rfl]
              · rw [u2_nk q7, if_neg q7, stA_at hr k hk]
theorem stB_nr {r r2 k : Nat} {dv : Int32} (h : r2 ≠ 400 + T) : stB na nb nc nd T m r dv r2 k = u2 m 0 20 0 r2 k := by
  unfold stB
  rw [u2_nr h, u2_nr h, u2_nr h, u2_nr h, u2_nr h, u2_nr h, u2_nr h, stA_nr h]
theorem forget_at {x : Int32} {k : Nat} (hk : k < 3) : fX7_forget na nb nc nd T m x (340 + x.toNatClampNeg) k = -1 := by
  unfold fX7_forget
  match k, hk with
  | 0, _ => rw [u2_nk (by decide), u2_nk (by decide), u2_eq]
  | 1, _ => rw [u2_nk (by decide), u2_eq]
  | 2, _ => rw [u2_eq]
theorem forget_nr {x : Int32} {r k : Nat} (h : r ≠ 340 + x.toNatClampNeg) : fX7_forget na nb nc nd T m x r k = m r k := by
  unfold fX7_forget
  rw [u2_nr h, u2_nr h, u2_nr h]
theorem stM_lot {r : Nat} {dv : Int32} (hn : nd < 12) : ∀ k, stM na nb nc nd T m r dv (308 + nd) k = stB na nb nc nd T m r dv (400 + T) k := by
  intro k
  have er : rb 3 = 308 := rfl
  unfold stM
  rw [er, rz_eq, forget_nr (by rw [nI_clamp (by omega)]; omega)]
theorem stM_rd {r : Nat} {dv : Int32} (hn : nd < 12) : ∀ k, k < 3 → stM na nb nc nd T m r dv (340 + nd) k = -1 := by
  intro k hk
  have er : rb 3 = 308 := rfl
  have f := forget_at (na := na) (nb := nb) (nc := nc) (nd := nd) (T := T + 1) (m := stB na nb nc nd T m r dv) (x := nI nd) hk
  rw [nI_clamp (by omega)] at f
  unfold stM
  rw [er, rz_nr (by omega)]
  exact f
theorem stM_nr {r r2 k : Nat} {dv : Int32} (hn : nd < 12) (h : r2 ≠ 400 + T) (h1 : r2 ≠ 308 + nd) (h2 : r2 ≠ 340 + nd) : stM na nb nc nd T m r dv r2 k = u2 m 0 20 0 r2 k := by
  have er : rb 3 = 308 := rfl
  unfold stM
  rw [er, rz_nr h1, forget_nr (by rw [nI_clamp (by omega)]; exact h2), stB_nr h]
theorem Rl.newL (h : Rl na nb nc nd g m) (hn : nd < 12) (o : ∀ t i k, ¬ (3 ≤ t ∧ t ≤ 5 ∧ i = 8 + nd) → ¬ (t = 0 ∧ k = 10) → g2 t i k = g t i k) (c : g2 0 0 10 = nI (nd + 1)) (row : ∀ k, k < 23 → cr g2 (8 + nd) k = m2 (308 + nd) k) (rd : ∀ k, k < 3 → m2 (340 + nd) k = -1) (e : ∀ r k, (r = 0 → k < 7) → r ≠ 308 + nd → r ≠ 340 + nd → r < 400 → m2 r k = m r k) : Rl na nb nc (nd + 1) g2 m2 := by
  obtain ⟨s, n, f, b, t, d, l, r, q⟩ := h
  have oc : ∀ j k, j ≠ 8 + nd → cr g2 j k = cr g j k := fun j k hj => by unfold cr; rw [o _ _ _ (by omega) (by omega), o _ _ _ (by omega) (by omega), o _ _ _ (by omega) (by omega)]
  refine ⟨fun k2 hk2 => ?_, ⟨?_, ?_, ?_, c⟩, fun i hi k hk => ?_, fun i hi k hk => ?_, fun i hi k hk => ?_, fun i hi k hk => ?_, fun i hi k hk => ?_, fun i hi k hk => ?_, fun k hk => ?_⟩
  · rw [o _ _ _ (by omega) (by omega), s k2 hk2, e _ _ (fun _ => hk2) (by omega) (by omega) (by omega)]
  · rw [o _ _ _ (by omega) (by omega)]; exact n.1
  · rw [o _ _ _ (by omega) (by omega)]; exact n.2.1
  · rw [o _ _ _ (by omega) (by omega)]; exact n.2.2.1
  · rw [o _ _ _ (by omega) (by omega), f i hi k hk, e _ _ (by omega) (by omega) (by omega) (by omega)]
  · rw [o _ _ _ (by omega) (by omega), b i hi k hk, e _ _ (by omega) (by omega) (by omega) (by omega)]
  · rw [oc _ _ (by omega), t i hi k hk, e _ _ (by omega) (by omega) (by omega) (by omega)]
  · rw [oc _ _ (by omega), d i hi k hk, e _ _ (by omega) (by omega) (by omega) (by omega)]
  · by_cases q : i = nd
    · subst q; rw [row k hk, if_pos (by omega)]
    · rw [oc _ _ (by omega), l i hi k hk]
      by_cases z : i < nd
      · rw [if_pos z, if_pos (by omega), e _ _ (by omega) (by omega) (by omega) (by omega)]
      · rw [if_neg z, if_neg (by omega)]
  · rw [o _ _ _ (by omega) (by omega), r i hi k hk]
    by_cases q : i = nd
    · subst q; rw [if_neg (Nat.lt_irrefl _), if_pos (by omega), rd k hk]
    · by_cases z : i < nd
      · rw [if_pos z, if_pos (by omega), e _ _ (by omega) (by omega) (by omega) (by omega)]
      · rw [if_neg z, if_neg (by omega)]
  · rw [o _ _ _ (by omega) (by omega), q k hk, e _ _ (by omega) (by omega) (by omega) (by omega)]
theorem kept_dv {mt x dv : Int32} (h : dv = if mt = 2 then 3 else 2) : fX1_keptOf mt x = x / dv := by
  unfold fX1_keptOf
  rw [h]
  split <;> rfl
/-- the lot that a bed gives -/
theorem fill_cr {i b : Nat} {dv : Int32} (hb : ∀ k, k < 23 → cr g (3 + b) k = m (303 + b) k) (hf : ∀ k, k < 23 → cr g (8 + i) k = 0) (hd : dv = if m (303 + b) 4 = 2 then 3 else 2) : ∀ k, k < 23 → cr (fX3_fillFrom g i b) (8 + i) k = if k = 10 then 1 else if k = 5 then m (303 + b) 5 else if k = 7 then m (303 + b) 7 else if k = 3 then m (303 + b) 3 else if k = 4 then m (303 + b) 4 else if k = 1 then m (303 + b) 1 else if k = 0 then (((((0 + m (303 + b) 11 / dv) + m (303 + b) 12 / dv) + m (303 + b) 13 / dv) + m (303 + b) 14 / dv) + m (303 + b) 15 / dv) + m (303 + b) 16 / dv else if 11 ≤ k then m (303 + b) k / dv else 0 := by
  have e1 : g 3 (3 + b) 1 = m (303 + b) 1 := hb 1 (by decide)
  have e3 : g 3 (3 + b) 3 = m (303 + b) 3 := hb 3 (by decide)
  have e4 : g 3 (3 + b) 4 = m (303 + b) 4 := hb 4 (by decide)
  have e5 : g 3 (3 + b) 5 = m (303 + b) 5 := hb 5 (by decide)
  have e7 : g 3 (3 + b) 7 = m (303 + b) 7 := hb 7 (by decide)
  have k0 : g 4 (3 + b) 0 = m (303 + b) 11 := hb 11 (by decide)
  have k1 : g 4 (3 + b) 1 = m (303 + b) 12 := hb 12 (by decide)
  have k2 : g 4 (3 + b) 2 = m (303 + b) 13 := hb 13 (by decide)
  have k3 : g 4 (3 + b) 3 = m (303 + b) 14 := hb 14 (by decide)
  have k4 : g 4 (3 + b) 4 = m (303 + b) 15 := hb 15 (by decide)
  have k5 : g 4 (3 + b) 5 = m (303 + b) 16 := hb 16 (by decide)
  have c0 : g 5 (3 + b) 0 = m (303 + b) 17 := hb 17 (by decide)
  have c1 : g 5 (3 + b) 1 = m (303 + b) 18 := hb 18 (by decide)
  have c2 : g 5 (3 + b) 2 = m (303 + b) 19 := hb 19 (by decide)
  have c3 : g 5 (3 + b) 3 = m (303 + b) 20 := hb 20 (by decide)
  have c4 : g 5 (3 + b) 4 = m (303 + b) 21 := hb 21 (by decide)
  have c5 : g 5 (3 + b) 5 = m (303 + b) 22 := hb 22 (by decide)
  have f2 : g 3 (8 + i) 2 = 0 := hf 2 (by decide)
  have f6 : g 3 (8 + i) 6 = 0 := hf 6 (by decide)
  have f8 : g 3 (8 + i) 8 = 0 := hf 8 (by decide)
  have f9 : g 3 (8 + i) 9 = 0 := hf 9 (by decide)
  unfold fX3_fillFrom fX1_keptKilos
  rw [e1, e3, e4, e5, e7, k0, k1, k2, k3, k4, k5, c0, c1, c2, c3, c4, c5]
  simp only [kept_dv hd]
  refine all23 ?_ ?_ ?_ ?_ ?_ ?_ ?_ ?_ ?_ ?_ ?_ ?_ ?_ ?_ ?_ ?_ ?_ ?_ ?_ ?_ ?_ ?_ ?_ <;> simp [cr, up, f2, f6, f8, f9]
theorem fill_o3 (g : Gd) (i b : Nat) : only3 g (fX3_fillFrom g i b) (8 + i) := by
  unfold fX3_fillFrom
  repeat (first | exact only3.rf | refine only3.upd ?_ (by decide) (by decide))
theorem emptyB_cr {i : Nat} : ∀ k, k < 23 → cr (fX1_empty g i) (3 + i) k = if k = 2 ∨ k = 8 ∨ k = 9 ∨ k = 10 then cr g (3 + i) k else 0 := by
  intro k hk
  unfold fX1_empty
  rw [begin_cr, clear_cr g _ k hk]
  by_cases q : k = 2 ∨ k = 8 ∨ k = 9 ∨ k = 10
  · rw [if_pos q, if_neg (by omega), if_neg (by omega), if_neg (by omega), if_neg (by omega), if_neg (by omega), if_neg (by omega)]
  · rw [if_neg q]
    by_cases q1 : k = 7
    · rw [if_pos q1]
    · rw [if_neg q1]
      by_cases q2 : k = 6
      · rw [if_pos q2]
      · rw [if_neg q2]
        by_cases q3 : k = 3
        · rw [if_pos q3]
        · rw [if_neg q3]
          by_cases q4 : k = 5
          · rw [if_pos q4]
          · rw [if_neg q4]
            by_cases q5 : k = 4
            · rw [if_pos q5]
            · rw [if_neg q5, if_pos (by omega)]
theorem emptyB_o (g : Gd) (i : Nat) : only3 g (fX1_empty g i) (3 + i) := (clear_o g (3 + i)).trans9 (begin_o _ _ _ _ _)
theorem emptyB_I {i : Nat} {M : Md} (hb : bedI m i) (hM : ∀ k, k < 23 → M (303 + i) k = if k = 8 ∨ k = 9 then m (303 + i) k else 0) (h0 : 0 ≤ (M 0 0).toInt) : bedI M i := by
  have e0 : (0 : Int32).toInt = 0 := rfl
  have z0 : ∀ k, k < 23 → k ≠ 8 → k ≠ 9 → M (303 + i) k = 0 := fun k hk a b => by rw [hM k hk, if_neg (by omega)]
  have z : ∀ k, k < 23 → k ≠ 8 → k ≠ 9 → (M (303 + i) k).toInt = 0 := fun k hk a b => by rw [z0 k hk a b]; exact e0
  refine ⟨⟨fun f hf => ?_, ?_, ?_, ?_, ?_⟩, ?_, ?_, ?_, ?_, ?_, fun _ => ⟨z0 6 (by decide) (by decide) (by decide), z0 7 (by decide) (by decide) (by decide)⟩, z0 2 (by decide) (by decide) (by decide), z0 10 (by decide) (by decide) (by decide)⟩
  · rw [z _ (by omega) (by omega) (by omega), z _ (by omega) (by omega) (by omega)]; decide
  · rw [z 0 (by decide) (by decide) (by decide), z 11 (by decide) (by decide) (by decide), z 12 (by decide) (by decide) (by decide), z 13 (by decide) (by decide) (by decide), z 14 (by decide) (by decide) (by decide), z 15 (by decide) (by decide) (by decide), z 16 (by decide) (by decide) (by decide)]; decide
  · rw [z 0 (by decide) (by decide) (by decide)]; decide
  · rw [z 1 (by decide) (by decide) (by decide)]; decide
  · rw [z 1 (by decide) (by decide) (by decide)]; decide
  · unfold ptI
    rw [z 3 (by decide) (by decide) (by decide)]; omega
  · unfold mtI
    exact Or.inl (z0 4 (by decide) (by decide) (by decide))
  · unfold moI
    rw [z 5 (by decide) (by decide) (by decide), z 7 (by decide) (by decide) (by decide)]; omega
  · rw [hM 8 (by decide), if_pos (by decide)]; exact hb.2.2.2.2.1
  · rw [hM 9 (by decide), if_pos (by decide)]; exact hb.2.2.2.2.2.1
/-- the halves, or thirds, of a mix -/
theorem part_I {r : Nat} {dv : Int32} (hm : mixI m r 300) (hd : dv = 2 ∨ dv = 3) {M : Md} {r2 : Nat} (h11 : ∀ k, k < 23 → 11 ≤ k → M r2 k = m r k / dv) (h0 : M r2 0 = (((((0 + m r 11 / dv) + m r 12 / dv) + m r 13 / dv) + m r 14 / dv) + m r 15 / dv) + m r 16 / dv) (h1 : M r2 1 = m r 1) : mixI M r2 150 ∧ (M r2 0).toInt ≤ 150 := by
  have q2 : (2 : Int32).toInt = 2 := rfl
  have q3 : (3 : Int32).toInt = 3 := rfl
  have s := hm.2.1
  have a : ∀ f, f < 6 → 0 ≤ (m r (11 + f)).toInt := fun f hf => hm.k hf
  have a0 := a 0 (by decide)
  have a1 := a 1 (by decide)
  have a2 := a 2 (by decide)
  have a3 := a 3 (by decide)
  have a4 := a 4 (by decide)
  have a5 := a 5 (by decide)
  simp only [Nat.reduceAdd] at a0 a1 a2 a3 a4 a5
  have k0 := hm.k0
  have dd : ∀ x : Int32, 0 ≤ x.toInt → (x / dv).toInt = x.toInt / dv.toInt := fun x hx => ti_div hx (by rcases hd with h | h <;> rw [h] <;> decide)
  have b0 := dd _ a0
  have b1 := dd _ a1
  have b2 := dd _ a2
  have b3 := dd _ a3
  have b4 := dd _ a4
  have b5 := dd _ a5
  have hdv : dv.toInt = 2 ∨ dv.toInt = 3 := by rcases hd with h | h <;> rw [h] <;> decide
  have key : (M r2 0).toInt = (m r 11).toInt / dv.toInt + (m r 12).toInt / dv.toInt + (m r 13).toInt / dv.toInt + (m r 14).toInt / dv.toInt + (m r 15).toInt / dv.toInt + (m r 16).toInt / dv.toInt := by
    rw [h0, Int32.zero_add]
    rcases hdv with h | h <;> rw [h] at b0 b1 b2 b3 b4 b5 ⊢
    all_goals
      have c1 := ti_add (a := m r 11 / dv) (b := m r 12 / dv) (by omega) (by omega)
      have c2 := ti_add (a := m r 11 / dv + m r 12 / dv) (b := m r 13 / dv) (by omega) (by omega)
      have c3 := ti_add (a := m r 11 / dv + m r 12 / dv + m r 13 / dv) (b := m r 14 / dv) (by omega) (by omega)
      have c4 := ti_add (a := m r 11 / dv + m r 12 / dv + m r 13 / dv + m r 14 / dv) (b := m r 15 / dv) (by omega) (by omega)
      have c5 := ti_add (a := m r 11 / dv + m r 12 / dv + m r 13 / dv + m r 14 / dv + m r 15 / dv) (b := m r 16 / dv) (by omega) (by omega)
      omega
  have hle : (M r2 0).toInt ≤ 150 := by
    rw [key]
    rcases hdv with h | h <;> rw [h] <;> omega
  refine ⟨⟨fun f hf => ?_, ?_, hle, ?_, ?_⟩, hle⟩
  · have p := hm.1 f hf
    rw [h11 _ (by omega) (by omega), h11 _ (by omega) (by omega), dd _ p.1, dd _ (by omega)]
    rcases hdv with h | h <;> rw [h] <;> omega
  · rw [key, h11 11 (by decide) (by decide), h11 12 (by decide) (by decide), h11 13 (by decide) (by decide), h11 14 (by decide) (by decide), h11 15 (by decide) (by decide), h11 16 (by decide) (by decide), b0, b1, b2, b3, b4, b5]
  · rw [h1]; exact hm.2.2.2.1
  · rw [h1]; exact hm.2.2.2.2
theorem mixI.wide {r : Nat} {K K2 : Int} (h : mixI m r K) (hk : K ≤ K2) : mixI m r K2 := ⟨h.1, h.2.1, Int.le_trans h.2.2.1 hk, h.2.2.2⟩
theorem store_core (h : Rl na nb nc nd g m) (hI : Iv na nb nc nd m) (hT : Tr g) {b : Nat} {dv v v2 : Int32} (hb : b < nc) (hn : nd < 12) (hd : dv = if m (303 + b) 4 = 2 then 3 else 2) (hne : ¬ (((((0 + m (303 + b) 11 / dv) + m (303 + b) 12 / dv) + m (303 + b) 13 / dv) + m (303 + b) 14 / dv) + m (303 + b) 15 / dv) + m (303 + b) 16 / dv = 0) (hv : v = v2) :
    Ok na nb nc (nd + 1) 0 0 v (fX1_empty (up (up (fX3_fillFrom g nd b) 0 0 10 ((fX3_fillFrom g nd b) 0 0 10 + 1)) 0 0 5 ((fX3_fillFrom g nd b) 0 0 5 + ((fX3_fillFrom g nd b) 3 (3 + b) 0 - (fX3_fillFrom g nd b) 3 (8 + nd) 0))) b) v2
      (fX7_empty na nb nc (nd + 1) 0 (u2 (stM na nb nc nd 0 m (303 + b) dv) 0 5 ((stM na nb nc nd 0 m (303 + b) dv) 0 5 + ((stM na nb nc nd 0 m (303 + b) dv) (303 + b) 0 - (stM na nb nc nd 0 m (303 + b) dv) (308 + nd) 0))) (303 + b)) := by
  obtain ⟨z, zh, i1, i2, i3, i4, i5, i6⟩ := id hI
  have bI := i4 b hb
  have e0 : (0 : Int32).toInt = 0 := rfl
  have hd2 : dv = 2 ∨ dv = 3 := by rw [hd]; split <;> simp
  have of := fill_o3 g nd b
  have fc := fill_cr (m := m) (i := nd) (fun k hk => h.br hI hb hk) (fun k hk => by rw [h.2.2.2.2.2.2.1 nd hn k hk, if_neg (Nat.lt_irrefl _)]) hd
  have lot : ∀ k, k < 23 → stM na nb nc nd 0 m (303 + b) dv (308 + nd) k = cr (fX3_fillFrom g nd b) (8 + nd) k := fun k hk => by rw [stM_lot hn, stB_at (by omega) k hk, fc k hk]
  have sm : ∀ r k, r ≠ 308 + nd → r ≠ 340 + nd → r < 400 → stM na nb nc nd 0 m (303 + b) dv r k = u2 m 0 20 0 r k := fun r k q1 q2 q3 => stM_nr hn (by omega) q1 q2
  have w10 : (fX3_fillFrom g nd b) 0 0 10 = nI nd := by rw [of 0 0 10 (by omega)]; exact h.d
  have w5 : (fX3_fillFrom g nd b) 0 0 5 = m 0 5 := by rw [of 0 0 5 (by omega)]; exact h.s (by decide)
  have wb : (fX3_fillFrom g nd b) 3 (3 + b) 0 = m (303 + b) 0 := by rw [of 3 (3 + b) 0 (by omega)]; exact h.b3 hI hb (by decide)
  have wl : (fX3_fillFrom g nd b) 3 (8 + nd) 0 = stM na nb nc nd 0 m (303 + b) dv (308 + nd) 0 := (lot 0 (by decide)).symm
  have v5 : (stM na nb nc nd 0 m (303 + b) dv) 0 5 = m 0 5 := by rw [sm _ _ (by omega) (by omega) (by omega), u2_nk (by decide)]
  have vb : (stM na nb nc nd 0 m (303 + b) dv) (303 + b) 0 = m (303 + b) 0 := by rw [sm _ _ (by omega) (by omega) (by omega), u2_nr (by omega)]
  rw [w10, w5, wb, wl, v5, vb, nI_1]
  have hR1 : Rl na nb nc (nd + 1) (up (fX3_fillFrom g nd b) 0 0 10 (nI (nd + 1))) (stM na nb nc nd 0 m (303 + b) dv) := by
    refine h.newL hn (fun t i k q1 q2 => ?_) (up_eq _ _ _ _ _) (fun k hk => ?_) (stM_rd hn) (fun r k q1 q2 q3 q4 => ?_)
    · rw [up_ne (by omega)]; exact of _ _ _ q1
    · rw [cr_nt (by decide)]; exact (lot k hk).symm
    · rw [sm r k q2 q3 q4]
      by_cases q : r = 0
      · subst q; rw [u2_nk (by have := q1 rfl; omega)]
      · rw [u2_nr q]
  have hR2 := hR1.u0 (k := 5) (v := m 0 5 + (m (303 + b) 0 - stM na nb nc nd 0 m (303 + b) dv (308 + nd) 0)) (by decide)
  generalize hX : m 0 5 + (m (303 + b) 0 - stM na nb nc nd 0 m (303 + b) dv (308 + nd) 0) = X at hR2
  have ee : ∀ r k, r ≠ 303 + b → r ≠ 0 → fX7_empty na nb nc (nd + 1) 0 (u2 (stM na nb nc nd 0 m (303 + b) dv) 0 5 X) (303 + b) r k = stM na nb nc nd 0 m (303 + b) dv r k := fun r k q1 q2 => by rw [empty_nr q1, u2_nr q2]
  have e00 : fX7_empty na nb nc (nd + 1) 0 (u2 (stM na nb nc nd 0 m (303 + b) dv) 0 5 X) (303 + b) 0 0 = m 0 0 := by rw [empty_nr (by omega), u2_nk (by decide), sm _ _ (by omega) (by omega) (by omega), u2_nk (by decide)]
  have em : ∀ r k, 100 ≤ r → r < 400 → r ≠ 303 + b → r ≠ 308 + nd → r ≠ 340 + nd → fX7_empty na nb nc (nd + 1) 0 (u2 (stM na nb nc nd 0 m (303 + b) dv) 0 5 X) (303 + b) r k = m r k := fun r k q1 q2 q3 q4 q5 => by rw [ee r k q3 (by omega), sm r k q4 q5 q2, u2_nr (by omega)]
  have eb : ∀ k, k < 23 → fX7_empty na nb nc (nd + 1) 0 (u2 (stM na nb nc nd 0 m (303 + b) dv) 0 5 X) (303 + b) (303 + b) k = if k = 8 ∨ k = 9 then m (303 + b) k else 0 := fun k hk => by
    rw [empty_at _ _ _ _ _ _ _ k hk, u2_nr (by omega), sm _ _ (by omega) (by omega) (by omega), u2_nr (by omega)]
  have el : ∀ k, k < 23 → fX7_empty na nb nc (nd + 1) 0 (u2 (stM na nb nc nd 0 m (303 + b) dv) 0 5 X) (303 + b) (308 + nd) k = stB na nb nc nd 0 m (303 + b) dv (400 + 0) k := fun k hk => by rw [ee _ _ (by omega) (by omega), stM_lot hn]
  have pI := part_I (m := m) (M := fX7_empty na nb nc (nd + 1) 0 (u2 (stM na nb nc nd 0 m (303 + b) dv) 0 5 X) (303 + b)) (r2 := 308 + nd) bI.1 hd2 (fun k hk hk2 => by rw [el k hk, stB_at (by omega) k hk, if_neg (by omega), if_neg (by omega), if_neg (by omega), if_neg (by omega), if_neg (by omega), if_neg (by omega), if_neg (by omega), if_pos hk2]) (by rw [el 0 (by decide), stB_at (by omega) 0 (by decide)]; rfl) (by rw [el 1 (by decide), stB_at (by omega) 1 (by decide)]; rfl)
  refine ⟨?_, fun _ => hv, ?_, ?_, ?_⟩
  · rw [empty_nr (by omega), u2_nk (by decide), sm _ _ (by omega) (by omega) (by omega), u2_eq]
  · refine hR2.row (j := 3 + b) (by omega) (emptyB_o _ b) (fun i q _ => by omega) (fun i q => by omega) (fun k hk => ?_) (fun r k q1 q2 => empty_nr (by omega))
    rw [emptyB_cr k hk, show 300 + (3 + b) = 303 + b by omega, eb k hk, cr_nt (by decide), cr_nt (by decide), of.row (by omega), h.br hI hb hk]
    by_cases q : k = 8 ∨ k = 9
    · rw [if_pos (by omega), if_pos q]
    · rw [if_neg q]
      by_cases q2 : k = 2 ∨ k = 8 ∨ k = 9 ∨ k = 10
      · rw [if_pos q2]
        obtain ⟨_, _, _, _, _, _, _, p8, p9⟩ := bI
        rcases (show k = 2 ∨ k = 10 by omega) with rfl | rfl
        · exact p8
        · exact p9
      · rw [if_neg q2]
  · refine ⟨⟨z.1, z.2.1, z.2.2.1, by omega⟩, ?_, fun i hi => ?_, fun i hi => ?_, fun i hi => ?_, fun i hi => ?_, fun i hi => ?_, ?_⟩
    · rw [e00]; exact zh
    · rw [em _ _ (by omega) (by omega) (by omega) (by omega) (by omega)]; exact i1 i hi
    · exact (i2 i hi).cg (Nat.le_refl _) (em _ _ (by omega) (by omega) (by omega) (by omega) (by omega)) (em _ _ (by omega) (by omega) (by omega) (by omega) (by omega)) (em _ _ (by omega) (by omega) (by omega) (by omega) (by omega)) (em _ _ (by omega) (by omega) (by omega) (by omega) (by omega))
    · exact (i3 i hi).cg (fun k _ => em _ _ (by omega) (by omega) (by omega) (by omega) (by omega)) (by rw [e00]; exact Int.le_refl _)
    · by_cases q : i = b
      · subst q
        exact emptyB_I bI eb (by rw [e00]; exact zh.1)
      · exact (i4 i hi).cg (fun k _ => em _ _ (by omega) (by omega) (by omega) (by omega) (by omega)) (by rw [e00]; exact Int.le_refl _)
    · by_cases q : i = nd
      · subst q
        have at_ : ∀ k, k < 23 → fX7_empty na nb nc (i + 1) 0 (u2 (stM na nb nc i 0 m (303 + b) dv) 0 5 X) (303 + b) (308 + i) k = _ := fun k hk => (el k hk).trans (stB_at (by omega) k hk)
        refine ⟨pI.1.wide (by decide), ?_, ?_, ?_, ?_, ?_, fun _ => ?_⟩
        · refine bI.2.1.cg ?_ (by rw [e00]; exact Int.le_refl _)
          rw [at_ 3 (by decide)]; rfl
        · have := bI.2.2.1
          unfold mtI at this ⊢
          rw [at_ 4 (by decide)]; exact this
        · have := bI.2.2.2.1
          unfold moI at this ⊢
          rw [at_ 5 (by decide), at_ 7 (by decide), e00]; exact this
        · rw [at_ 2 (by decide), e00]
          show 0 ≤ (0 : Int32).toInt ∧ (0 : Int32).toInt ≤ (m 0 0).toInt
          rw [e0]; omega
        · rw [at_ 10 (by decide)]; exact Or.inr rfl
        · refine ne0_pos pI.1.k0.1 ?_
          rw [at_ 0 (by decide)]; exact hne
      · exact (i5 i (by omega)).cg (fun k _ => em _ _ (by omega) (by omega) (by omega) (by omega) (by omega)) (by rw [e00]; exact Int.le_refl _)
    · show sumF _ nd + kiL _ nd ≤ 150 * ((nd + 1 : Nat) : Int)
      rw [sumF_cg (f := kiL m) nd (fun i hi => by show (_ : Int32).toInt = _; rw [em _ _ (by omega) (by omega) (by omega) (by omega) (by omega)]; rfl)]
      have := pI.2
      have q : kiL (fX7_empty na nb nc (nd + 1) 0 (u2 (stM na nb nc nd 0 m (303 + b) dv) 0 5 X) (303 + b)) nd ≤ 150 := this
      omega
  · unfold Tr
    rw [emptyB_o _ b 3 20 0 (by omega), up_nt (by decide), up_nt (by decide), of 3 20 0 (by omega)]; exact hT
theorem sum_st {r : Nat} {dv : Int32} (hr : r ≠ 0) : fX7_sum na nb nc nd (T + 1) (stA T m r dv) (400 + T) 11 = (((((0 + m r 11 / dv) + m r 12 / dv) + m r 13 / dv) + m r 14 / dv) + m r 15 / dv) + m r 16 / dv := by
  have q : fX7_sum na nb nc nd (T + 1) (stA T m r dv) (400 + T) 11 = (((((0 + stA T m r dv (400 + T) 11) + stA T m r dv (400 + T) 12) + stA T m r dv (400 + T) 13) + stA T m r dv (400 + T) 14) + stA T m r dv (400 + T) 15) + stA T m r dv (400 + T) 16 := rfl
  rw [q, stA_at hr 11 (by decide), stA_at hr 12 (by decide), stA_at hr 13 (by decide), stA_at hr 14 (by decide), stA_at hr 15 (by decide), stA_at hr 16 (by decide)]
  rfl
theorem Ok.no2 (h : Rl na nb nc nd g m) (hI : Iv na nb nc nd m) (hT : Tr g) {cd : Nat} {c kk v v2 : Int32} (hc : cd ≠ 0) (hk : c = kk) : Ok na nb nc nd kk cd v g v2 (u2 (u2 m 0 20 0) 0 20 c) := ⟨(u2_eq _ _ _ _).trans hk, fun e => absurd e hc, h.th.th, hI.th.th, hT⟩
theorem P_store (h : Rl na nb nc nd g m) (hI : Iv na nb nc nd m) (hT : Tr g) (x : Int32) : Ok na nb nc (nd + (fX7_store na nb nc nd 0 m x).2.2) (k13 (fX6_store g x).1) (fX6_store g x).1 (fX6_store g x).2.1 (fX6_store g x).2.2 (fX7_store na nb nc nd 0 m x).1 (fX7_store na nb nc nd 0 m x).2.1 := by
  rw [store_form]
  unfold fX6_store
  have z := hI.1
  rcases bed_is (T := 0) h hI x with ⟨a1, a2, a3, a4⟩ | ⟨a1, a2⟩
  · rw [if_pos a1, if_neg (a2 _), u2_nr (by omega)]
    have hbr := fun k hk => h.br hI a3 (k := k) hk
    have hkk : ∀ dv, dv = (if m (303 + x.toNatClampNeg) 4 = 2 then (3 : Int32) else 2) → fX1_keptKilos (g 3 (3 + x.toNatClampNeg) 4) (g 4 (3 + x.toNatClampNeg) 0) (g 4 (3 + x.toNatClampNeg) 1) (g 4 (3 + x.toNatClampNeg) 2) (g 4 (3 + x.toNatClampNeg) 3) (g 4 (3 + x.toNatClampNeg) 4) (g 4 (3 + x.toNatClampNeg) 5) = (((((0 + m (303 + x.toNatClampNeg) 11 / dv) + m (303 + x.toNatClampNeg) 12 / dv) + m (303 + x.toNatClampNeg) 13 / dv) + m (303 + x.toNatClampNeg) 14 / dv) + m (303 + x.toNatClampNeg) 15 / dv) + m (303 + x.toNatClampNeg) 16 / dv := by
      intro dv hd
      have e4 : g 3 (3 + x.toNatClampNeg) 4 = m (303 + x.toNatClampNeg) 4 := hbr 4 (by decide)
      have k0 : g 4 (3 + x.toNatClampNeg) 0 = m (303 + x.toNatClampNeg) 11 := hbr 11 (by decide)
      have k1 : g 4 (3 + x.toNatClampNeg) 1 = m (303 + x.toNatClampNeg) 12 := hbr 12 (by decide)
      have k2 : g 4 (3 + x.toNatClampNeg) 2 = m (303 + x.toNatClampNeg) 13 := hbr 13 (by decide)
      have k3 : g 4 (3 + x.toNatClampNeg) 3 = m (303 + x.toNatClampNeg) 14 := hbr 14 (by decide)
      have k4 : g 4 (3 + x.toNatClampNeg) 4 = m (303 + x.toNatClampNeg) 15 := hbr 15 (by decide)
      have k5 : g 4 (3 + x.toNatClampNeg) 5 = m (303 + x.toNatClampNeg) 16 := hbr 16 (by decide)
      unfold fX1_keptKilos
      rw [e4, k0, k1, k2, k3, k4, k5]
      simp only [kept_dv hd]
    have hnd : (fX3_fillFrom g nd x.toNatClampNeg) 0 0 10 = nI nd := by rw [fill_o3 g nd x.toNatClampNeg 0 0 10 (by omega)]; exact h.d
    have f := full_is (n := nd) (N := 12) z.2.2.2 (by decide)
    by_cases mt : m (303 + x.toNatClampNeg) 4 = 2
    · rw [if_pos mt, sum_st (by omega), hkk 3 (by rw [if_pos mt]), h.d]
      by_cases c : (((((0 + m (303 + x.toNatClampNeg) 11 / 3) + m (303 + x.toNatClampNeg) 12 / 3) + m (303 + x.toNatClampNeg) 13 / 3) + m (303 + x.toNatClampNeg) 14 / 3) + m (303 + x.toNatClampNeg) 15 / 3) + m (303 + x.toNatClampNeg) 16 / 3 = 0
      · rw [if_pos c, if_pos c]; exact Ok.no2 h hI hT (by simp) rfl
      · rw [if_neg c, if_neg c]
        rcases (show (nI nd < 12 ∧ ¬ nI nd = 12 ∧ nd < 12) ∨ (¬ nI nd < 12 ∧ nI nd = 12) from f) with ⟨d1, d2, d3⟩ | ⟨d1, d2⟩
        · rw [if_pos d1, if_neg d2, nI_clamp (by omega)]
          refine (store_core h hI hT (dv := 3) (v := 0) a3 d3 (by rw [if_pos mt]) c rfl).val _ _ _ rfl (fun _ => ?_)
          dsimp only
          rw [emptyB_o _ _ 0 0 10 (by omega), up_nk (by decide), up_eq, hnd, nI_1]
        · rw [if_neg d1, if_pos d2]; exact Ok.no2 h hI hT (by simp) rfl
    · rw [if_neg mt, sum_st (by omega), hkk 2 (by rw [if_neg mt]), h.d]
      by_cases c : (((((0 + m (303 + x.toNatClampNeg) 11 / 2) + m (303 + x.toNatClampNeg) 12 / 2) + m (303 + x.toNatClampNeg) 13 / 2) + m (303 + x.toNatClampNeg) 14 / 2) + m (303 + x.toNatClampNeg) 15 / 2) + m (303 + x.toNatClampNeg) 16 / 2 = 0
      · rw [if_pos c, if_pos c]; exact Ok.no2 h hI hT (by simp) rfl
      · rw [if_neg c, if_neg c]
        rcases (show (nI nd < 12 ∧ ¬ nI nd = 12 ∧ nd < 12) ∨ (¬ nI nd < 12 ∧ nI nd = 12) from f) with ⟨d1, d2, d3⟩ | ⟨d1, d2⟩
        · rw [if_pos d1, if_neg d2, nI_clamp (by omega)]
          refine (store_core h hI hT (dv := 2) (v := 0) a3 d3 (by rw [if_neg mt]) c rfl).val _ _ _ rfl (fun _ => ?_)
          dsimp only
          rw [emptyB_o _ _ 0 0 10 (by omega), up_nk (by decide), up_eq, hnd, nI_1]
        · rw [if_neg d1, if_pos d2]; exact Ok.no2 h hI hT (by simp) rfl
  · rw [if_neg (show ¬ fX6_bedAt g x = 0 by rw [a1]; decide), if_pos (a2 _), a1]; exact Ok.no (T := 0) h hI hT (by simp) rfl
end SR

