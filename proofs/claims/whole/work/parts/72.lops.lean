/-! ===== the law's cases ===== -/
def LC (p : Program) (l : Launch) (s : State) (m : MethodId) (c : Code) (b L : Nat) (xs : Nat → Int32) : Prop := (p.tables.exec = Jvm.exec) ∧ (c.code = cL_law) ∧ (c.maxLocals = 9) ∧ (s.vm.findClass RL = some m.cls) ∧ (∀ w ∈ wsL_law, w.before #[Value.ref b] s = true) ∧ (va_X b L xs s s.heap) ∧ (b < s.heap.size) ∧ (l.stackTraces = false) ∧ (L ≤ 2560)
theorem LC.hx {p : Program} {l : Launch} {s : State} {m : MethodId} {c : Code} {b L : Nat} {xs : Nat → Int32} (h : LC p l s m c b L xs) : p.tables.exec = Jvm.exec := h.1
theorem LC.hb {p : Program} {l : Launch} {s : State} {m : MethodId} {c : Code} {b L : Nat} {xs : Nat → Int32} (h : LC p l s m c b L xs) : c.code = cL_law := h.2.1
theorem LC.ml {p : Program} {l : Launch} {s : State} {m : MethodId} {c : Code} {b L : Nat} {xs : Nat → Int32} (h : LC p l s m c b L xs) : c.maxLocals = 9 := h.2.2.1
theorem LC.own {p : Program} {l : Launch} {s : State} {m : MethodId} {c : Code} {b L : Nat} {xs : Nat → Int32} (h : LC p l s m c b L xs) : s.vm.findClass RL = some m.cls := h.2.2.2.1
theorem LC.ts {p : Program} {l : Launch} {s : State} {m : MethodId} {c : Code} {b L : Nat} {xs : Nat → Int32} (h : LC p l s m c b L xs) : ∀ w ∈ wsL_law, w.before #[Value.ref b] s = true := h.2.2.2.2.1
theorem LC.X {p : Program} {l : Launch} {s : State} {m : MethodId} {c : Code} {b L : Nat} {xs : Nat → Int32} (h : LC p l s m c b L xs) : va_X b L xs s s.heap := h.2.2.2.2.2.1
theorem LC.bl {p : Program} {l : Launch} {s : State} {m : MethodId} {c : Code} {b L : Nat} {xs : Nat → Int32} (h : LC p l s m c b L xs) : b < s.heap.size := h.2.2.2.2.2.2.1
theorem LC.st {p : Program} {l : Launch} {s : State} {m : MethodId} {c : Code} {b L : Nat} {xs : Nat → Int32} (h : LC p l s m c b L xs) : l.stackTraces = false := h.2.2.2.2.2.2.2.1
theorem LC.le {p : Program} {l : Launch} {s : State} {m : MethodId} {c : Code} {b L : Nat} {xs : Nat → Int32} (h : LC p l s m c b L xs) : L ≤ 2560 := h.2.2.2.2.2.2.2.2
/-- class and reference agree -/
def RS (g : Gd) (mm : Md) (w : Nat → Nat → Nat) : Prop := (Rl (w 0 0) (w 0 1) (w 0 2) (w 0 3) g mm) ∧ (Iv (w 0 0) (w 0 1) (w 0 2) (w 0 3) mm) ∧ (Tr g) ∧ (w 0 4 = 0) ∧ (∀ i, i < 4 → capI w i)
theorem RS.R {g : Gd} {mm : Md} {w : Nat → Nat → Nat} (h : RS g mm w) : Rl (w 0 0) (w 0 1) (w 0 2) (w 0 3) g mm := h.1
theorem RS.I {g : Gd} {mm : Md} {w : Nat → Nat → Nat} (h : RS g mm w) : Iv (w 0 0) (w 0 1) (w 0 2) (w 0 3) mm := h.2.1
theorem RS.T {g : Gd} {mm : Md} {w : Nat → Nat → Nat} (h : RS g mm w) : Tr g := h.2.2.1
theorem RS.t4 {g : Gd} {mm : Md} {w : Nat → Nat → Nat} (h : RS g mm w) : w 0 4 = 0 := h.2.2.2.1
theorem RS.cap {g : Gd} {mm : Md} {w : Nat → Nat → Nat} (h : RS g mm w) : ∀ i, i < 4 → capI w i := h.2.2.2.2
theorem wG_size {w : Nat → Nat → Nat} {li n j : Nat} (hli : li < 4) (hn : n = 0 ∨ n = 1) : wG w li n 0 j = if j = li then w 0 li + n else w 0 j := by
  rcases hn with rfl | rfl
  · split
    · rename_i h; rw [h]; rfl
    · rfl
  · split
    · rename_i h; rw [h]; exact wG_0 hli
    · rename_i h; exact wG_o h
theorem RS.of {g : Gd} {mm : Md} {w : Nat → Nat → Nat} {a b c d : Nat} {kk : Int32} {cd : Nat} {v v2 : Int32} (h : Ok a b c d kk cd v g v2 mm) (e0 : w 0 0 = a) (e1 : w 0 1 = b) (e2 : w 0 2 = c) (e3 : w 0 3 = d) (t4 : w 0 4 = 0) (hc : ∀ i, i < 4 → capI w i) : RS g mm w := ⟨by rw [e0, e1, e2, e3]; exact h.2.2.1, by rw [e0, e1, e2, e3]; exact h.2.2.2.1, h.2.2.2.2, t4, hc⟩
theorem rc_c : 400000 ≤ room_1.cells := by decide
theorem rc_s : 4000000 ≤ room_1.slots := by decide
section LO
variable {p : Program} {l : Launch} {e : Env} {s : State} {m : MethodId} {below : List Frame} {meth : Method} {c : Code} {H : Heap} {locs : List Loc} {cells slots : Nat} {Q : State → Prop}
variable {b L : Nat} {xs : Nat → Int32} {D : va_G} {cy : Nat → ClassId} {ad : Nat → Nat → Nat} {o e0 : Nat} {g : Gd} {vo : Int64} {bd w : Nat → Nat → Nat} {mm : Md} {SS : Int64} {mq i pc : Nat} {ls : Array Slot} {rest : List Value} {R : Room} {args : Array Value}
theorem l_val {x v : Int64} (h : x = v) (k : W p l e R s m args below meth c H locs cells slots Q (F0 m pc ls (.long v :: rest))) : W p l e R s m args below meth c H locs cells slots Q (F0 m pc ls (.long x :: rest)) := by rw [h]; exact k
theorem lcmp_self (v : Int64) : lg_cmp v v = 0 := by simp [lg_cmp]

theorem cover_l {v : Int32} (h : v = 0 ∨ v = 1) : v.toInt64 = if v = 0 then (0 : Int64) else 1 := by
  rcases h with h | h <;> rw [h] <;> rfl
theorem cover_01 (hv : IvC g) (x on : Int32) : (fX6_cover g x on).2.1 = 0 ∨ (fX6_cover g x on).2.1 = 1 := by
  by_cases h : (fX6_cover g x on).2.1 = 0
  · exact Or.inl h
  · exact Or.inr (cover_b hv h)
theorem l_boolL {cc : ByteArray} {x : Int32} (hx : p.tables.exec = Jvm.exec) (hb : c.code = cc) (d1 : decode cc pc = .ok (.ifCond .eq 7, 3)) (d2 : decode cc (pc + 3) = .ok (.lconst 1, 1)) (d3 : decode cc (pc + 4) = .ok (.goto 4, 3)) (d4 : decode cc (pc + 7) = .ok (.lconst 0, 1)) (kk : W p l e R s m args below meth c H locs cells slots Q (F0 m (pc + 8) ls (.long (if x = 0 then (0 : Int64) else 1) :: rest))) : W p l e R s m args below meth c H locs cells slots Q (F0 m pc ls (.int x :: rest)) := by
  refine lv_if_eq (tgt := pc + 7) hx hb d1 (by omega) (fun hz => ?_) (fun hz => ?_)
  · refine lv_lconst (v := 0) hx hb d4 (by decide) ?_
    rw [if_pos hz] at kk; exact kk
  · refine lv_lconst (v := 1) hx hb d2 (by decide) ?_
    refine lv_goto (tgt := pc + 8) hx hb d3 (by omega) ?_
    rw [if_neg hz] at kk; exact kk
theorem bool01 (x : Int32) : (if x = 0 then (0 : Int32) else 1) = 0 ∨ (if x = 0 then (0 : Int32) else 1) = 1 := by
  split
  · exact Or.inl rfl
  · exact Or.inr rfl
theorem l_bool {cc : ByteArray} {x : Int32} (hx : p.tables.exec = Jvm.exec) (hb : c.code = cc) (d1 : decode cc pc = .ok (.ifCond .eq 7, 3)) (d2 : decode cc (pc + 3) = .ok (.iconst 1, 1)) (d3 : decode cc (pc + 4) = .ok (.goto 4, 3)) (d4 : decode cc (pc + 7) = .ok (.iconst 0, 1)) (kk : W p l e R s m args below meth c H locs cells slots Q (F0 m (pc + 8) ls (.int (if x = 0 then (0 : Int32) else 1) :: rest))) : W p l e R s m args below meth c H locs cells slots Q (F0 m pc ls (.int x :: rest)) := by
  refine lv_if_eq (tgt := pc + 7) hx hb d1 (by omega) (fun hz => ?_) (fun hz => ?_)
  · refine lv_iconst (v := 0) hx hb d4 (by decide) ?_
    rw [if_pos hz] at kk; exact kk
  · refine lv_iconst (v := 1) hx hb d2 (by decide) ?_
    refine lv_goto (tgt := pc + 8) hx hb d3 (by omega) ?_
    rw [if_neg hz] at kk; exact kk
theorem n01_farm (na nb nc nd T : Nat) (m : Md) (x0 : Int32) : (fX7_farm na nb nc nd T m x0).2.2 = 0 ∨ (fX7_farm na nb nc nd T m x0).2.2 = 1 := by
  unfold fX7_farm
  repeat' split
  all_goals first | exact Or.inl rfl | exact Or.inr rfl
theorem n01_bring (na nb nc nd T : Nat) (m : Md) (x0 x1 x2 : Int32) : (fX7_bring na nb nc nd T m x0 x1 x2).2.2 = 0 ∨ (fX7_bring na nb nc nd T m x0 x1 x2).2.2 = 1 := by
  unfold fX7_bring
  repeat' split
  all_goals first | exact Or.inl rfl | exact Or.inr rfl
theorem n01_bed (na nb nc nd T : Nat) (m : Md) (x0 : Int32) : (fX7_bed na nb nc nd T m x0).2.2 = 0 ∨ (fX7_bed na nb nc nd T m x0).2.2 = 1 := by
  unfold fX7_bed
  repeat' split
  all_goals first | exact Or.inl rfl | exact Or.inr rfl
theorem n01_store (na nb nc nd T : Nat) (m : Md) (x0 : Int32) : (fX7_store na nb nc nd T m x0).2.2 = 0 ∨ (fX7_store na nb nc nd T m x0).2.2 = 1 := by
  unfold fX7_store
  repeat' split
  all_goals first | exact Or.inl rfl | exact Or.inr rfl
set_option maxRecDepth 100000 in
set_option maxHeartbeats 4000000 in
theorem op_farm (C : LC p l s m c b L xs) (hI : cI ad) (hB : LWB D cy e0 s) (hL : LWS D cy ad o e0 s g vo bd w mm SS H) (hR : RS g mm w) (hS : va_S (LA0 s) s.heap H locs) (hmq : bd 0 0 = mq) (hi : i + 5 ≤ L) (hc : cells + 450 ≤ 400000) (hs : slots + 6200 ≤ 4000000) (hl : lv_has ls 9 [(4, .int (nI i)), (0, .ref b), (1, .ref (ad 0 0)), (2, .ref mq), (3, .ref o)])
    (kk : ∀ (g2 : Gd) (v2 : Int64) (bd2 w2 : Nat → Nat → Nat) (m2 : Md) (S2 : Int64) (H1 : Heap) (locs1 : List Loc) (ls1 : Array Slot), LWS D cy ad o e0 s g2 v2 bd2 w2 m2 S2 H1 → RS g2 m2 w2 → va_S (LA0 s) s.heap H1 locs1 → bd2 0 0 = mq → lv_has ls1 9 [(4, .int (nI i)), (0, .ref b), (1, .ref (ad 0 0)), (2, .ref mq), (3, .ref o)] → W p l e room_1 s m #[Value.ref b] below meth c H1 locs1 (cells + 450) (slots + 6200) Q (F0 m 2075 ls1 [])) :
    W p l e room_1 s m #[Value.ref b] below meth c H locs cells slots Q (F0 m 168 ls []) := by
  have hI0 := hI
  have hl0 := C.st
  have hP : Ok (w 0 0 + (fX7_farm (w 0 0) (w 0 1) (w 0 2) (w 0 3) (w 0 4) mm (xs (nI (i + 1)).toNatClampNeg)).2.2) (w 0 1) (w 0 2) (w 0 3) (k23 (fX6_farm g (xs (nI (i + 1)).toNatClampNeg)).1) (fX6_farm g (xs (nI (i + 1)).toNatClampNeg)).1 (fX6_farm g (xs (nI (i + 1)).toNatClampNeg)).2.1 (fX6_farm g (xs (nI (i + 1)).toNatClampNeg)).2.2 (fX7_farm (w 0 0) (w 0 1) (w 0 2) (w 0 3) (w 0 4) mm (xs (nI (i + 1)).toNatClampNeg)).1 (fX7_farm (w 0 0) (w 0 1) (w 0 2) (w 0 3) (w 0 4) mm (xs (nI (i + 1)).toNatClampNeg)).2.1 := by rw [hR.t4]; exact P_farm hR.R hR.I hR.T (xs (nI (i + 1)).toNatClampNeg)
  have hcd := cd_farm g (xs (nI (i + 1)).toNatClampNeg)
  have hv : IvC g := ivC_of hR.R hR.I hR.T
  have hLL := C.le
  refine lv_aload_n C.hx C.hb dL_law_168 rfl (lv_at hl 2 rfl) ?_
  refine lv_aload_n C.hx C.hb dL_law_169 rfl (lv_at hl 1 rfl) ?_
  refine lv_iload C.hx C.hb dL_law_170 (lv_at hl 0 rfl) ?_
  refine lv_iconst (v := 1) C.hx C.hb dL_law_172 (by decide) ?_
  refine lv_iadd C.hx C.hb dL_law_173 ?_
  refine q_val (v := nI (i + 1)) (nI_add i 1) ?_
  refine va_sld C.hx C.hb C.X C.bl (LA0_no C.bl) hS (vp_in_nI (by omega) (by have := C.le; omega)) dL_law_174 ?_
  refine lv_aload_n C.hx C.hb dL_law_175 rfl (lv_at hl 4 rfl) ?_
  refine l_callO (g2 := (fX6_farm g (xs (nI (i + 1)).toNatClampNeg)).2.2) (v2 := (if (fX6_farm g (xs (nI (i + 1)).toNatClampNeg)).1 = 0 then (fX6_farm g (xs (nI (i + 1)).toNatClampNeg)).2.1.toInt64 else vo)) (kv := (k23 (fX6_farm g (xs (nI (i + 1)).toNatClampNeg)).1)) (As := [.ref (ad 0 0), .int (xs (nI (i + 1)).toNatClampNeg), .ref o]) (rest := []) ⟨C.hx, C.hb, C.ml, C.own, C.ts⟩ (kL_farm l D cy hI hl0 g o vo _ (xs (nI (i + 1)).toNatClampNeg) hv) (vx_cwSW 3 C.ts gL_law_L_farm rfl rfl rfl (by decide +kernel) ⟨Nat.le_of_ble_eq_true rfl, Nat.le_of_ble_eq_true rfl⟩) hB hL hS rfl hl.1 (Nat.le_of_ble_eq_true rfl) dL_law_176 ⟨by refine Nat.le_trans (m := 400000) ?_ rc_c; show cells + _ ≤ 400000; omega, by refine Nat.le_trans (m := 4000000) ?_ rc_s; show slots + _ ≤ 4000000; omega⟩ (fun H locs hL hS => ?_)
  refine lv_istore (lv' := [(5, .int (k23 (fX6_farm g (xs (nI (i + 1)).toNatClampNeg)).1)), (4, .int (nI i)), (0, .ref b), (1, .ref (ad 0 0)), (2, .ref mq), (3, .ref o)]) C.hx C.hb dL_law_179 hl (by decide) rfl (fun ls hl => ?_)
  refine lv_aload_n C.hx C.hb dL_law_181 rfl (lv_at hl 4 rfl) ?_
  refine lv_aload_n C.hx C.hb dL_law_182 rfl (lv_at hl 2 rfl) ?_
  refine lv_iload C.hx C.hb dL_law_183 (lv_at hl 1 rfl) ?_
  refine lv_iconst (v := 1) C.hx C.hb dL_law_185 (by decide) ?_
  refine lv_iadd C.hx C.hb dL_law_186 ?_
  refine q_val (v := nI (i + 1)) (nI_add i 1) ?_
  refine va_sld C.hx C.hb C.X C.bl (LA0_no C.bl) hS (vp_in_nI (by omega) (by have := C.le; omega)) dL_law_187 ?_
  refine l_callG (v := (fX7_farm (w 0 0) (w 0 1) (w 0 2) (w 0 3) (w 0 4) mm (xs (nI (i + 1)).toNatClampNeg)).1) (m2 := (fX7_farm (w 0 0) (w 0 1) (w 0 2) (w 0 3) (w 0 4) mm (xs (nI (i + 1)).toNatClampNeg)).2.1) (w2 := wG w 0 (fX7_farm (w 0 0) (w 0 1) (w 0 2) (w 0 3) (w 0 4) mm (xs (nI (i + 1)).toNatClampNeg)).2.2) hmq (As := [.int (xs (nI (i + 1)).toNatClampNeg)]) (rest := []) ⟨C.hx, C.hb, C.ml, C.own, C.ts⟩ (mX7_farm l D cy e0 mm SS _ (xs (nI (i + 1)).toNatClampNeg) hR.I hR.t4 hR.cap) (cwV 1 C.ts gL_law_X7_farm rfl rfl rfl (by decide +kernel) ⟨Nat.le_of_ble_eq_true rfl, Nat.le_of_ble_eq_true rfl⟩) hB hL hS rfl hl.1 (Nat.le_of_ble_eq_true rfl) dL_law_188 ⟨by refine Nat.le_trans (m := 400000) ?_ rc_c; show cells + _ + _ ≤ 400000; omega, by refine Nat.le_trans (m := 4000000) ?_ rc_s; show slots + _ + _ ≤ 4000000; omega⟩ (fun bd2 H locs hmq hL hS => ?_)
  refine lv_istore (lv' := [(6, .int (fX7_farm (w 0 0) (w 0 1) (w 0 2) (w 0 3) (w 0 4) mm (xs (nI (i + 1)).toNatClampNeg)).1), (5, .int (k23 (fX6_farm g (xs (nI (i + 1)).toNatClampNeg)).1)), (4, .int (nI i)), (0, .ref b), (1, .ref (ad 0 0)), (2, .ref mq), (3, .ref o)]) C.hx C.hb dL_law_191 hl (by decide) rfl (fun ls hl => ?_)
  refine lv_aload_n C.hx C.hb dL_law_193 rfl (lv_at hl 5 rfl) ?_
  refine l_callMi (v := (fX7_farm (w 0 0) (w 0 1) (w 0 2) (w 0 3) (w 0 4) mm (xs (nI (i + 1)).toNatClampNeg)).2.1 0 20) (m2 := (fX7_farm (w 0 0) (w 0 1) (w 0 2) (w 0 3) (w 0 4) mm (xs (nI (i + 1)).toNatClampNeg)).2.1) (S2 := SS) hmq (As := []) (rest := []) ⟨C.hx, C.hb, C.ml, C.own, C.ts⟩ (kX7_thrown l D cy e0 (fX7_farm (w 0 0) (w 0 1) (w 0 2) (w 0 3) (w 0 4) mm (xs (nI (i + 1)).toNatClampNeg)).2.1 SS _) (cwV 0 C.ts gL_law_X7_thrown rfl rfl rfl (by decide +kernel) ⟨Nat.le_of_ble_eq_true rfl, Nat.le_of_ble_eq_true rfl⟩) hB hL hS rfl hl.1 (Nat.le_of_ble_eq_true rfl) dL_law_194 ⟨by refine Nat.le_trans (m := 400000) ?_ rc_c; show cells + _ + _ + _ ≤ 400000; omega, by refine Nat.le_trans (m := 4000000) ?_ rc_s; show slots + _ + _ + _ ≤ 4000000; omega⟩ (fun H locs hL hS => ?_)
  refine lv_iload C.hx C.hb dL_law_197 (lv_at hl 1 rfl) ?_
  refine lv_icmp_eq (tgt := 204) C.hx C.hb dL_law_199 (by decide) (fun _ => ?_) (fun c => absurd hP.1 c)
  have hn := n01_farm (w 0 0) (w 0 1) (w 0 2) (w 0 3) (w 0 4) mm (xs (nI (i + 1)).toNatClampNeg)
  have K : W p l e room_1 s m #[Value.ref b] below meth c H locs (cells + 1 + 2 + 0) (slots + 6 + 68 + 0) Q (F0 m 221 ls []) := by
    refine lv_goto (tgt := 2075) C.hx C.hb dL_law_221 (by decide) ?_
    refine W.widen (k := cells + 450) (n := slots + 6200) (by omega) (by omega) ?_
    exact kk _ _ _ (wG w 0 (fX7_farm (w 0 0) (w 0 1) (w 0 2) (w 0 3) (w 0 4) mm (xs (nI (i + 1)).toNatClampNeg)).2.2) _ _ _ _ ls hL (RS.of hP (by rw [wG_size (by decide) hn]; rfl) (by rw [wG_size (by decide) hn]; rfl) (by rw [wG_size (by decide) hn]; rfl) (by rw [wG_size (by decide) hn]; rfl) (by rw [wG_size (by decide) hn]; exact hR.t4) (fun i hi => capI_G (by decide) hR.cap hi)) hS hmq (lv_sub hl [2, 3, 4, 5, 6] rfl)
  refine lv_iload C.hx C.hb dL_law_204 (lv_at hl 1 rfl) ?_
  refine lv_if_ne (tgt := 221) C.hx C.hb dL_law_206 (by decide) (fun _ => K) (fun hz => ?_)
  have hc0 : (fX6_farm g (xs (nI (i + 1)).toNatClampNeg)).1 = 0 := by
    rcases hcd with h | h | h
    · exact h
    · exact absurd (show (k23 (fX6_farm g (xs (nI (i + 1)).toNatClampNeg)).1) = 0 from Classical.byContradiction (fun q => by first | exact hz q | exact q hz)) (by rw [h.1]; decide)
    · exact absurd (show (k23 (fX6_farm g (xs (nI (i + 1)).toNatClampNeg)).1) = 0 from Classical.byContradiction (fun q => by first | exact hz q | exact q hz)) (by rw [h.1]; decide)
  refine lv_aload_n C.hx C.hb dL_law_209 rfl (lv_at hl 6 rfl) ?_
  refine lv_iconst (v := 0) C.hx C.hb dL_law_210 (by decide) ?_
  refine l_lald C.hx C.hb hB hL dL_law_211 ?_
  refine l_val (v := (fX7_farm (w 0 0) (w 0 1) (w 0 2) (w 0 3) (w 0 4) mm (xs (nI (i + 1)).toNatClampNeg)).1.toInt64) (by rw [if_pos hc0]; exact congrArg Int32.toInt64 (hP.2.1 hc0)) ?_
  refine lv_iload C.hx C.hb dL_law_212 (lv_at hl 0 rfl) ?_
  refine lv_i2l C.hx C.hb dL_law_214 rfl ?_
  refine W.lcmp C.hx C.hb dL_law_215 ?_
  refine lv_if_eq (tgt := 221) C.hx C.hb dL_law_216 (by decide) (fun _ => K) (fun c => absurd (lcmp_self _) c)
set_option maxRecDepth 100000 in
set_option maxHeartbeats 4000000 in
theorem op_label (C : LC p l s m c b L xs) (hI : cI ad) (hB : LWB D cy e0 s) (hL : LWS D cy ad o e0 s g vo bd w mm SS H) (hR : RS g mm w) (hS : va_S (LA0 s) s.heap H locs) (hmq : bd 0 0 = mq) (hi : i + 5 ≤ L) (hc : cells + 450 ≤ 400000) (hs : slots + 6200 ≤ 4000000) (hl : lv_has ls 9 [(4, .int (nI i)), (0, .ref b), (1, .ref (ad 0 0)), (2, .ref mq), (3, .ref o)])
    (kk : ∀ (g2 : Gd) (v2 : Int64) (bd2 w2 : Nat → Nat → Nat) (m2 : Md) (S2 : Int64) (H1 : Heap) (locs1 : List Loc) (ls1 : Array Slot), LWS D cy ad o e0 s g2 v2 bd2 w2 m2 S2 H1 → RS g2 m2 w2 → va_S (LA0 s) s.heap H1 locs1 → bd2 0 0 = mq → lv_has ls1 9 [(4, .int (nI i)), (0, .ref b), (1, .ref (ad 0 0)), (2, .ref mq), (3, .ref o)] → W p l e room_1 s m #[Value.ref b] below meth c H1 locs1 (cells + 450) (slots + 6200) Q (F0 m 2075 ls1 [])) :
    W p l e room_1 s m #[Value.ref b] below meth c H locs cells slots Q (F0 m 224 ls []) := by
  have hI0 := hI
  have hl0 := C.st
  have hP : Ok (w 0 0) (w 0 1) (w 0 2) (w 0 3) (k12 (fX6_label g (xs (nI (i + 1)).toNatClampNeg) (xs (nI (i + 2)).toNatClampNeg)).1) (fX6_label g (xs (nI (i + 1)).toNatClampNeg) (xs (nI (i + 2)).toNatClampNeg)).1 (fX6_label g (xs (nI (i + 1)).toNatClampNeg) (xs (nI (i + 2)).toNatClampNeg)).2.1 (fX6_label g (xs (nI (i + 1)).toNatClampNeg) (xs (nI (i + 2)).toNatClampNeg)).2.2 (fX7_label (w 0 0) (w 0 1) (w 0 2) (w 0 3) (w 0 4) mm (xs (nI (i + 1)).toNatClampNeg) (xs (nI (i + 2)).toNatClampNeg)).1 (fX7_label (w 0 0) (w 0 1) (w 0 2) (w 0 3) (w 0 4) mm (xs (nI (i + 1)).toNatClampNeg) (xs (nI (i + 2)).toNatClampNeg)).2 := by rw [hR.t4]; exact P_label (T := 0) hR.R hR.I hR.T (xs (nI (i + 1)).toNatClampNeg) (xs (nI (i + 2)).toNatClampNeg)
  have hcd := cd_label g (xs (nI (i + 1)).toNatClampNeg) (xs (nI (i + 2)).toNatClampNeg)
  have hv : IvC g := ivC_of hR.R hR.I hR.T
  have hLL := C.le
  refine lv_aload_n C.hx C.hb dL_law_224 rfl (lv_at hl 2 rfl) ?_
  refine lv_aload_n C.hx C.hb dL_law_225 rfl (lv_at hl 1 rfl) ?_
  refine lv_iload C.hx C.hb dL_law_226 (lv_at hl 0 rfl) ?_
  refine lv_iconst (v := 1) C.hx C.hb dL_law_228 (by decide) ?_
  refine lv_iadd C.hx C.hb dL_law_229 ?_
  refine q_val (v := nI (i + 1)) (nI_add i 1) ?_
  refine va_sld C.hx C.hb C.X C.bl (LA0_no C.bl) hS (vp_in_nI (by omega) (by have := C.le; omega)) dL_law_230 ?_
  refine lv_aload_n C.hx C.hb dL_law_231 rfl (lv_at hl 1 rfl) ?_
  refine lv_iload C.hx C.hb dL_law_232 (lv_at hl 0 rfl) ?_
  refine lv_iconst (v := 2) C.hx C.hb dL_law_234 (by decide) ?_
  refine lv_iadd C.hx C.hb dL_law_235 ?_
  refine q_val (v := nI (i + 2)) (nI_add i 2) ?_
  refine va_sld C.hx C.hb C.X C.bl (LA0_no C.bl) hS (vp_in_nI (by omega) (by have := C.le; omega)) dL_law_236 ?_
  refine lv_aload_n C.hx C.hb dL_law_237 rfl (lv_at hl 4 rfl) ?_
  refine l_callO (g2 := (fX6_label g (xs (nI (i + 1)).toNatClampNeg) (xs (nI (i + 2)).toNatClampNeg)).2.2) (v2 := (if (fX6_label g (xs (nI (i + 1)).toNatClampNeg) (xs (nI (i + 2)).toNatClampNeg)).1 = 0 then (fX6_label g (xs (nI (i + 1)).toNatClampNeg) (xs (nI (i + 2)).toNatClampNeg)).2.1.toInt64 else vo)) (kv := (k12 (fX6_label g (xs (nI (i + 1)).toNatClampNeg) (xs (nI (i + 2)).toNatClampNeg)).1)) (As := [.ref (ad 0 0), .int (xs (nI (i + 1)).toNatClampNeg), .int (xs (nI (i + 2)).toNatClampNeg), .ref o]) (rest := []) ⟨C.hx, C.hb, C.ml, C.own, C.ts⟩ (kL_label l D cy hI hl0 g o vo _ (xs (nI (i + 1)).toNatClampNeg) (xs (nI (i + 2)).toNatClampNeg) hv) (vx_cwSW 4 C.ts gL_law_L_label rfl rfl rfl (by decide +kernel) ⟨Nat.le_of_ble_eq_true rfl, Nat.le_of_ble_eq_true rfl⟩) hB hL hS rfl hl.1 (Nat.le_of_ble_eq_true rfl) dL_law_238 ⟨by refine Nat.le_trans (m := 400000) ?_ rc_c; show cells + _ ≤ 400000; omega, by refine Nat.le_trans (m := 4000000) ?_ rc_s; show slots + _ ≤ 4000000; omega⟩ (fun H locs hL hS => ?_)
  refine lv_istore (lv' := [(5, .int (k12 (fX6_label g (xs (nI (i + 1)).toNatClampNeg) (xs (nI (i + 2)).toNatClampNeg)).1)), (4, .int (nI i)), (0, .ref b), (1, .ref (ad 0 0)), (2, .ref mq), (3, .ref o)]) C.hx C.hb dL_law_241 hl (by decide) rfl (fun ls hl => ?_)
  refine lv_aload_n C.hx C.hb dL_law_243 rfl (lv_at hl 4 rfl) ?_
  refine lv_aload_n C.hx C.hb dL_law_244 rfl (lv_at hl 2 rfl) ?_
  refine lv_iload C.hx C.hb dL_law_245 (lv_at hl 1 rfl) ?_
  refine lv_iconst (v := 1) C.hx C.hb dL_law_247 (by decide) ?_
  refine lv_iadd C.hx C.hb dL_law_248 ?_
  refine q_val (v := nI (i + 1)) (nI_add i 1) ?_
  refine va_sld C.hx C.hb C.X C.bl (LA0_no C.bl) hS (vp_in_nI (by omega) (by have := C.le; omega)) dL_law_249 ?_
  refine lv_aload_n C.hx C.hb dL_law_250 rfl (lv_at hl 2 rfl) ?_
  refine lv_iload C.hx C.hb dL_law_251 (lv_at hl 1 rfl) ?_
  refine lv_iconst (v := 2) C.hx C.hb dL_law_253 (by decide) ?_
  refine lv_iadd C.hx C.hb dL_law_254 ?_
  refine q_val (v := nI (i + 2)) (nI_add i 2) ?_
  refine va_sld C.hx C.hb C.X C.bl (LA0_no C.bl) hS (vp_in_nI (by omega) (by have := C.le; omega)) dL_law_255 ?_
  refine l_callMi (v := (fX7_label (w 0 0) (w 0 1) (w 0 2) (w 0 3) (w 0 4) mm (xs (nI (i + 1)).toNatClampNeg) (xs (nI (i + 2)).toNatClampNeg)).1) (m2 := (fX7_label (w 0 0) (w 0 1) (w 0 2) (w 0 3) (w 0 4) mm (xs (nI (i + 1)).toNatClampNeg) (xs (nI (i + 2)).toNatClampNeg)).2) (S2 := SS) hmq (As := [.int (xs (nI (i + 1)).toNatClampNeg), .int (xs (nI (i + 2)).toNatClampNeg)]) (rest := []) ⟨C.hx, C.hb, C.ml, C.own, C.ts⟩ (mX7_label l D cy e0 mm SS _ (xs (nI (i + 1)).toNatClampNeg) (xs (nI (i + 2)).toNatClampNeg) hR.I hR.t4 hR.cap) (cwV 2 C.ts gL_law_X7_label rfl rfl rfl (by decide +kernel) ⟨Nat.le_of_ble_eq_true rfl, Nat.le_of_ble_eq_true rfl⟩) hB hL hS rfl hl.1 (Nat.le_of_ble_eq_true rfl) dL_law_256 ⟨by refine Nat.le_trans (m := 400000) ?_ rc_c; show cells + _ + _ ≤ 400000; omega, by refine Nat.le_trans (m := 4000000) ?_ rc_s; show slots + _ + _ ≤ 4000000; omega⟩ (fun H locs hL hS => ?_)
  refine lv_istore (lv' := [(6, .int (fX7_label (w 0 0) (w 0 1) (w 0 2) (w 0 3) (w 0 4) mm (xs (nI (i + 1)).toNatClampNeg) (xs (nI (i + 2)).toNatClampNeg)).1), (5, .int (k12 (fX6_label g (xs (nI (i + 1)).toNatClampNeg) (xs (nI (i + 2)).toNatClampNeg)).1)), (4, .int (nI i)), (0, .ref b), (1, .ref (ad 0 0)), (2, .ref mq), (3, .ref o)]) C.hx C.hb dL_law_259 hl (by decide) rfl (fun ls hl => ?_)
  refine lv_aload_n C.hx C.hb dL_law_261 rfl (lv_at hl 5 rfl) ?_
  refine l_callMi (v := (fX7_label (w 0 0) (w 0 1) (w 0 2) (w 0 3) (w 0 4) mm (xs (nI (i + 1)).toNatClampNeg) (xs (nI (i + 2)).toNatClampNeg)).2 0 20) (m2 := (fX7_label (w 0 0) (w 0 1) (w 0 2) (w 0 3) (w 0 4) mm (xs (nI (i + 1)).toNatClampNeg) (xs (nI (i + 2)).toNatClampNeg)).2) (S2 := SS) hmq (As := []) (rest := []) ⟨C.hx, C.hb, C.ml, C.own, C.ts⟩ (kX7_thrown l D cy e0 (fX7_label (w 0 0) (w 0 1) (w 0 2) (w 0 3) (w 0 4) mm (xs (nI (i + 1)).toNatClampNeg) (xs (nI (i + 2)).toNatClampNeg)).2 SS _) (cwV 0 C.ts gL_law_X7_thrown rfl rfl rfl (by decide +kernel) ⟨Nat.le_of_ble_eq_true rfl, Nat.le_of_ble_eq_true rfl⟩) hB hL hS rfl hl.1 (Nat.le_of_ble_eq_true rfl) dL_law_262 ⟨by refine Nat.le_trans (m := 400000) ?_ rc_c; show cells + _ + _ + _ ≤ 400000; omega, by refine Nat.le_trans (m := 4000000) ?_ rc_s; show slots + _ + _ + _ ≤ 4000000; omega⟩ (fun H locs hL hS => ?_)
  refine lv_iload C.hx C.hb dL_law_265 (lv_at hl 1 rfl) ?_
  refine lv_icmp_eq (tgt := 272) C.hx C.hb dL_law_267 (by decide) (fun _ => ?_) (fun c => absurd hP.1 c)
  have K : W p l e room_1 s m #[Value.ref b] below meth c H locs (cells + 2 + 0 + 0) (slots + 12 + 0 + 0) Q (F0 m 289 ls []) := by
    refine lv_goto (tgt := 2075) C.hx C.hb dL_law_289 (by decide) ?_
    refine W.widen (k := cells + 450) (n := slots + 6200) (by omega) (by omega) ?_
    exact kk _ _ _ w _ _ _ _ ls hL (RS.of hP rfl rfl rfl rfl hR.t4 hR.cap) hS hmq (lv_sub hl [2, 3, 4, 5, 6] rfl)
  refine lv_iload C.hx C.hb dL_law_272 (lv_at hl 1 rfl) ?_
  refine lv_if_ne (tgt := 289) C.hx C.hb dL_law_274 (by decide) (fun _ => K) (fun hz => ?_)
  have hc0 : (fX6_label g (xs (nI (i + 1)).toNatClampNeg) (xs (nI (i + 2)).toNatClampNeg)).1 = 0 := by
    rcases hcd with h | h | h
    · exact h
    · exact absurd (show (k12 (fX6_label g (xs (nI (i + 1)).toNatClampNeg) (xs (nI (i + 2)).toNatClampNeg)).1) = 0 from Classical.byContradiction (fun q => by first | exact hz q | exact q hz)) (by rw [h.1]; decide)
    · exact absurd (show (k12 (fX6_label g (xs (nI (i + 1)).toNatClampNeg) (xs (nI (i + 2)).toNatClampNeg)).1) = 0 from Classical.byContradiction (fun q => by first | exact hz q | exact q hz)) (by rw [h.1]; decide)
  refine lv_aload_n C.hx C.hb dL_law_277 rfl (lv_at hl 6 rfl) ?_
  refine lv_iconst (v := 0) C.hx C.hb dL_law_278 (by decide) ?_
  refine l_lald C.hx C.hb hB hL dL_law_279 ?_
  refine l_val (v := (fX7_label (w 0 0) (w 0 1) (w 0 2) (w 0 3) (w 0 4) mm (xs (nI (i + 1)).toNatClampNeg) (xs (nI (i + 2)).toNatClampNeg)).1.toInt64) (by rw [if_pos hc0]; exact congrArg Int32.toInt64 (hP.2.1 hc0)) ?_
  refine lv_iload C.hx C.hb dL_law_280 (lv_at hl 0 rfl) ?_
  refine lv_i2l C.hx C.hb dL_law_282 rfl ?_
  refine W.lcmp C.hx C.hb dL_law_283 ?_
  refine lv_if_eq (tgt := 289) C.hx C.hb dL_law_284 (by decide) (fun _ => K) (fun c => absurd (lcmp_self _) c)
set_option maxRecDepth 100000 in
set_option maxHeartbeats 4000000 in
theorem op_price (C : LC p l s m c b L xs) (hI : cI ad) (hB : LWB D cy e0 s) (hL : LWS D cy ad o e0 s g vo bd w mm SS H) (hR : RS g mm w) (hS : va_S (LA0 s) s.heap H locs) (hmq : bd 0 0 = mq) (hi : i + 5 ≤ L) (hc : cells + 450 ≤ 400000) (hs : slots + 6200 ≤ 4000000) (hl : lv_has ls 9 [(4, .int (nI i)), (0, .ref b), (1, .ref (ad 0 0)), (2, .ref mq), (3, .ref o)])
    (kk : ∀ (g2 : Gd) (v2 : Int64) (bd2 w2 : Nat → Nat → Nat) (m2 : Md) (S2 : Int64) (H1 : Heap) (locs1 : List Loc) (ls1 : Array Slot), LWS D cy ad o e0 s g2 v2 bd2 w2 m2 S2 H1 → RS g2 m2 w2 → va_S (LA0 s) s.heap H1 locs1 → bd2 0 0 = mq → lv_has ls1 9 [(4, .int (nI i)), (0, .ref b), (1, .ref (ad 0 0)), (2, .ref mq), (3, .ref o)] → W p l e room_1 s m #[Value.ref b] below meth c H1 locs1 (cells + 450) (slots + 6200) Q (F0 m 2075 ls1 [])) :
    W p l e room_1 s m #[Value.ref b] below meth c H locs cells slots Q (F0 m 292 ls []) := by
  have hI0 := hI
  have hl0 := C.st
  have hP : Ok (w 0 0) (w 0 1) (w 0 2) (w 0 3) (k23 (fX6_price g (xs (nI (i + 1)).toNatClampNeg)).1) (fX6_price g (xs (nI (i + 1)).toNatClampNeg)).1 (fX6_price g (xs (nI (i + 1)).toNatClampNeg)).2.1 (fX6_price g (xs (nI (i + 1)).toNatClampNeg)).2.2 (fX7_price (w 0 0) (w 0 1) (w 0 2) (w 0 3) (w 0 4) mm (xs (nI (i + 1)).toNatClampNeg)).1 (fX7_price (w 0 0) (w 0 1) (w 0 2) (w 0 3) (w 0 4) mm (xs (nI (i + 1)).toNatClampNeg)).2 := by rw [hR.t4]; exact P_price (T := 0) hR.R hR.I hR.T (xs (nI (i + 1)).toNatClampNeg)
  have hcd := cd_price g (xs (nI (i + 1)).toNatClampNeg)
  have hv : IvC g := ivC_of hR.R hR.I hR.T
  have hLL := C.le
  refine lv_aload_n C.hx C.hb dL_law_292 rfl (lv_at hl 2 rfl) ?_
  refine lv_aload_n C.hx C.hb dL_law_293 rfl (lv_at hl 1 rfl) ?_
  refine lv_iload C.hx C.hb dL_law_294 (lv_at hl 0 rfl) ?_
  refine lv_iconst (v := 1) C.hx C.hb dL_law_296 (by decide) ?_
  refine lv_iadd C.hx C.hb dL_law_297 ?_
  refine q_val (v := nI (i + 1)) (nI_add i 1) ?_
  refine va_sld C.hx C.hb C.X C.bl (LA0_no C.bl) hS (vp_in_nI (by omega) (by have := C.le; omega)) dL_law_298 ?_
  refine lv_aload_n C.hx C.hb dL_law_299 rfl (lv_at hl 4 rfl) ?_
  refine l_callO (g2 := (fX6_price g (xs (nI (i + 1)).toNatClampNeg)).2.2) (v2 := (if (fX6_price g (xs (nI (i + 1)).toNatClampNeg)).1 = 0 then (fX6_price g (xs (nI (i + 1)).toNatClampNeg)).2.1.toInt64 else vo)) (kv := (k23 (fX6_price g (xs (nI (i + 1)).toNatClampNeg)).1)) (As := [.ref (ad 0 0), .int (xs (nI (i + 1)).toNatClampNeg), .ref o]) (rest := []) ⟨C.hx, C.hb, C.ml, C.own, C.ts⟩ (kL_price l D cy hI hl0 g o vo _ (xs (nI (i + 1)).toNatClampNeg) ) (vx_cwSW 3 C.ts gL_law_L_price rfl rfl rfl (by decide +kernel) ⟨Nat.le_of_ble_eq_true rfl, Nat.le_of_ble_eq_true rfl⟩) hB hL hS rfl hl.1 (Nat.le_of_ble_eq_true rfl) dL_law_300 ⟨by refine Nat.le_trans (m := 400000) ?_ rc_c; show cells + _ ≤ 400000; omega, by refine Nat.le_trans (m := 4000000) ?_ rc_s; show slots + _ ≤ 4000000; omega⟩ (fun H locs hL hS => ?_)
  refine lv_istore (lv' := [(5, .int (k23 (fX6_price g (xs (nI (i + 1)).toNatClampNeg)).1)), (4, .int (nI i)), (0, .ref b), (1, .ref (ad 0 0)), (2, .ref mq), (3, .ref o)]) C.hx C.hb dL_law_303 hl (by decide) rfl (fun ls hl => ?_)
  refine lv_aload_n C.hx C.hb dL_law_305 rfl (lv_at hl 4 rfl) ?_
  refine lv_aload_n C.hx C.hb dL_law_306 rfl (lv_at hl 2 rfl) ?_
  refine lv_iload C.hx C.hb dL_law_307 (lv_at hl 1 rfl) ?_
  refine lv_iconst (v := 1) C.hx C.hb dL_law_309 (by decide) ?_
  refine lv_iadd C.hx C.hb dL_law_310 ?_
  refine q_val (v := nI (i + 1)) (nI_add i 1) ?_
  refine va_sld C.hx C.hb C.X C.bl (LA0_no C.bl) hS (vp_in_nI (by omega) (by have := C.le; omega)) dL_law_311 ?_
  refine l_callMi (v := (fX7_price (w 0 0) (w 0 1) (w 0 2) (w 0 3) (w 0 4) mm (xs (nI (i + 1)).toNatClampNeg)).1) (m2 := (fX7_price (w 0 0) (w 0 1) (w 0 2) (w 0 3) (w 0 4) mm (xs (nI (i + 1)).toNatClampNeg)).2) (S2 := SS) hmq (As := [.int (xs (nI (i + 1)).toNatClampNeg)]) (rest := []) ⟨C.hx, C.hb, C.ml, C.own, C.ts⟩ (mX7_price l D cy e0 mm SS _ (xs (nI (i + 1)).toNatClampNeg) hR.I hR.t4 hR.cap) (cwV 1 C.ts gL_law_X7_price rfl rfl rfl (by decide +kernel) ⟨Nat.le_of_ble_eq_true rfl, Nat.le_of_ble_eq_true rfl⟩) hB hL hS rfl hl.1 (Nat.le_of_ble_eq_true rfl) dL_law_312 ⟨by refine Nat.le_trans (m := 400000) ?_ rc_c; show cells + _ + _ ≤ 400000; omega, by refine Nat.le_trans (m := 4000000) ?_ rc_s; show slots + _ + _ ≤ 4000000; omega⟩ (fun H locs hL hS => ?_)
  refine lv_istore (lv' := [(6, .int (fX7_price (w 0 0) (w 0 1) (w 0 2) (w 0 3) (w 0 4) mm (xs (nI (i + 1)).toNatClampNeg)).1), (5, .int (k23 (fX6_price g (xs (nI (i + 1)).toNatClampNeg)).1)), (4, .int (nI i)), (0, .ref b), (1, .ref (ad 0 0)), (2, .ref mq), (3, .ref o)]) C.hx C.hb dL_law_315 hl (by decide) rfl (fun ls hl => ?_)
  refine lv_aload_n C.hx C.hb dL_law_317 rfl (lv_at hl 5 rfl) ?_
  refine l_callMi (v := (fX7_price (w 0 0) (w 0 1) (w 0 2) (w 0 3) (w 0 4) mm (xs (nI (i + 1)).toNatClampNeg)).2 0 20) (m2 := (fX7_price (w 0 0) (w 0 1) (w 0 2) (w 0 3) (w 0 4) mm (xs (nI (i + 1)).toNatClampNeg)).2) (S2 := SS) hmq (As := []) (rest := []) ⟨C.hx, C.hb, C.ml, C.own, C.ts⟩ (kX7_thrown l D cy e0 (fX7_price (w 0 0) (w 0 1) (w 0 2) (w 0 3) (w 0 4) mm (xs (nI (i + 1)).toNatClampNeg)).2 SS _) (cwV 0 C.ts gL_law_X7_thrown rfl rfl rfl (by decide +kernel) ⟨Nat.le_of_ble_eq_true rfl, Nat.le_of_ble_eq_true rfl⟩) hB hL hS rfl hl.1 (Nat.le_of_ble_eq_true rfl) dL_law_318 ⟨by refine Nat.le_trans (m := 400000) ?_ rc_c; show cells + _ + _ + _ ≤ 400000; omega, by refine Nat.le_trans (m := 4000000) ?_ rc_s; show slots + _ + _ + _ ≤ 4000000; omega⟩ (fun H locs hL hS => ?_)
  refine lv_iload C.hx C.hb dL_law_321 (lv_at hl 1 rfl) ?_
  refine lv_icmp_eq (tgt := 328) C.hx C.hb dL_law_323 (by decide) (fun _ => ?_) (fun c => absurd hP.1 c)
  have K : W p l e room_1 s m #[Value.ref b] below meth c H locs (cells + 1 + 0 + 0) (slots + 6 + 0 + 0) Q (F0 m 345 ls []) := by
    refine lv_goto (tgt := 2075) C.hx C.hb dL_law_345 (by decide) ?_
    refine W.widen (k := cells + 450) (n := slots + 6200) (by omega) (by omega) ?_
    exact kk _ _ _ w _ _ _ _ ls hL (RS.of hP rfl rfl rfl rfl hR.t4 hR.cap) hS hmq (lv_sub hl [2, 3, 4, 5, 6] rfl)
  refine lv_iload C.hx C.hb dL_law_328 (lv_at hl 1 rfl) ?_
  refine lv_if_ne (tgt := 345) C.hx C.hb dL_law_330 (by decide) (fun _ => K) (fun hz => ?_)
  have hc0 : (fX6_price g (xs (nI (i + 1)).toNatClampNeg)).1 = 0 := by
    rcases hcd with h | h
    · exact h
    · exact absurd (show (k23 (fX6_price g (xs (nI (i + 1)).toNatClampNeg)).1) = 0 from Classical.byContradiction (fun q => by first | exact hz q | exact q hz)) (by rw [h.1]; decide)
  refine lv_aload_n C.hx C.hb dL_law_333 rfl (lv_at hl 6 rfl) ?_
  refine lv_iconst (v := 0) C.hx C.hb dL_law_334 (by decide) ?_
  refine l_lald C.hx C.hb hB hL dL_law_335 ?_
  refine l_val (v := (fX7_price (w 0 0) (w 0 1) (w 0 2) (w 0 3) (w 0 4) mm (xs (nI (i + 1)).toNatClampNeg)).1.toInt64) (by rw [if_pos hc0]; exact congrArg Int32.toInt64 (hP.2.1 hc0)) ?_
  refine lv_iload C.hx C.hb dL_law_336 (lv_at hl 0 rfl) ?_
  refine lv_i2l C.hx C.hb dL_law_338 rfl ?_
  refine W.lcmp C.hx C.hb dL_law_339 ?_
  refine lv_if_eq (tgt := 345) C.hx C.hb dL_law_340 (by decide) (fun _ => K) (fun c => absurd (lcmp_self _) c)
set_option maxRecDepth 100000 in
set_option maxHeartbeats 4000000 in
theorem op_bring (C : LC p l s m c b L xs) (hI : cI ad) (hB : LWB D cy e0 s) (hL : LWS D cy ad o e0 s g vo bd w mm SS H) (hR : RS g mm w) (hS : va_S (LA0 s) s.heap H locs) (hmq : bd 0 0 = mq) (hi : i + 5 ≤ L) (hc : cells + 450 ≤ 400000) (hs : slots + 6200 ≤ 4000000) (hl : lv_has ls 9 [(4, .int (nI i)), (0, .ref b), (1, .ref (ad 0 0)), (2, .ref mq), (3, .ref o)])
    (kk : ∀ (g2 : Gd) (v2 : Int64) (bd2 w2 : Nat → Nat → Nat) (m2 : Md) (S2 : Int64) (H1 : Heap) (locs1 : List Loc) (ls1 : Array Slot), LWS D cy ad o e0 s g2 v2 bd2 w2 m2 S2 H1 → RS g2 m2 w2 → va_S (LA0 s) s.heap H1 locs1 → bd2 0 0 = mq → lv_has ls1 9 [(4, .int (nI i)), (0, .ref b), (1, .ref (ad 0 0)), (2, .ref mq), (3, .ref o)] → W p l e room_1 s m #[Value.ref b] below meth c H1 locs1 (cells + 450) (slots + 6200) Q (F0 m 2075 ls1 [])) :
    W p l e room_1 s m #[Value.ref b] below meth c H locs cells slots Q (F0 m 348 ls []) := by
  have hI0 := hI
  have hl0 := C.st
  have hP : Ok (w 0 0) (w 0 1 + (fX7_bring (w 0 0) (w 0 1) (w 0 2) (w 0 3) (w 0 4) mm (xs (nI (i + 1)).toNatClampNeg) (xs (nI (i + 2)).toNatClampNeg) (xs (nI (i + 3)).toNatClampNeg)).2.2) (w 0 2) (w 0 3) (k12 (fX6_bring g (xs (nI (i + 1)).toNatClampNeg) (xs (nI (i + 2)).toNatClampNeg) (xs (nI (i + 3)).toNatClampNeg)).1) (fX6_bring g (xs (nI (i + 1)).toNatClampNeg) (xs (nI (i + 2)).toNatClampNeg) (xs (nI (i + 3)).toNatClampNeg)).1 (fX6_bring g (xs (nI (i + 1)).toNatClampNeg) (xs (nI (i + 2)).toNatClampNeg) (xs (nI (i + 3)).toNatClampNeg)).2.1 (fX6_bring g (xs (nI (i + 1)).toNatClampNeg) (xs (nI (i + 2)).toNatClampNeg) (xs (nI (i + 3)).toNatClampNeg)).2.2 (fX7_bring (w 0 0) (w 0 1) (w 0 2) (w 0 3) (w 0 4) mm (xs (nI (i + 1)).toNatClampNeg) (xs (nI (i + 2)).toNatClampNeg) (xs (nI (i + 3)).toNatClampNeg)).1 (fX7_bring (w 0 0) (w 0 1) (w 0 2) (w 0 3) (w 0 4) mm (xs (nI (i + 1)).toNatClampNeg) (xs (nI (i + 2)).toNatClampNeg) (xs (nI (i + 3)).toNatClampNeg)).2.1 := by rw [hR.t4]; exact P_bring hR.R hR.I hR.T (xs (nI (i + 1)).toNatClampNeg) (xs (nI (i + 2)).toNatClampNeg) (xs (nI (i + 3)).toNatClampNeg)
  have hcd := cd_bring g (xs (nI (i + 1)).toNatClampNeg) (xs (nI (i + 2)).toNatClampNeg) (xs (nI (i + 3)).toNatClampNeg)
  have hv : IvC g := ivC_of hR.R hR.I hR.T
  have hLL := C.le
  refine lv_aload_n C.hx C.hb dL_law_348 rfl (lv_at hl 2 rfl) ?_
  refine lv_aload_n C.hx C.hb dL_law_349 rfl (lv_at hl 1 rfl) ?_
  refine lv_iload C.hx C.hb dL_law_350 (lv_at hl 0 rfl) ?_
  refine lv_iconst (v := 1) C.hx C.hb dL_law_352 (by decide) ?_
  refine lv_iadd C.hx C.hb dL_law_353 ?_
  refine q_val (v := nI (i + 1)) (nI_add i 1) ?_
  refine va_sld C.hx C.hb C.X C.bl (LA0_no C.bl) hS (vp_in_nI (by omega) (by have := C.le; omega)) dL_law_354 ?_
  refine lv_aload_n C.hx C.hb dL_law_355 rfl (lv_at hl 1 rfl) ?_
  refine lv_iload C.hx C.hb dL_law_356 (lv_at hl 0 rfl) ?_
  refine lv_iconst (v := 2) C.hx C.hb dL_law_358 (by decide) ?_
  refine lv_iadd C.hx C.hb dL_law_359 ?_
  refine q_val (v := nI (i + 2)) (nI_add i 2) ?_
  refine va_sld C.hx C.hb C.X C.bl (LA0_no C.bl) hS (vp_in_nI (by omega) (by have := C.le; omega)) dL_law_360 ?_
  refine lv_aload_n C.hx C.hb dL_law_361 rfl (lv_at hl 1 rfl) ?_
  refine lv_iload C.hx C.hb dL_law_362 (lv_at hl 0 rfl) ?_
  refine lv_iconst (v := 3) C.hx C.hb dL_law_364 (by decide) ?_
  refine lv_iadd C.hx C.hb dL_law_365 ?_
  refine q_val (v := nI (i + 3)) (nI_add i 3) ?_
  refine va_sld C.hx C.hb C.X C.bl (LA0_no C.bl) hS (vp_in_nI (by omega) (by have := C.le; omega)) dL_law_366 ?_
  refine lv_aload_n C.hx C.hb dL_law_367 rfl (lv_at hl 4 rfl) ?_
  refine l_callO (g2 := (fX6_bring g (xs (nI (i + 1)).toNatClampNeg) (xs (nI (i + 2)).toNatClampNeg) (xs (nI (i + 3)).toNatClampNeg)).2.2) (v2 := (if (fX6_bring g (xs (nI (i + 1)).toNatClampNeg) (xs (nI (i + 2)).toNatClampNeg) (xs (nI (i + 3)).toNatClampNeg)).1 = 0 then (fX6_bring g (xs (nI (i + 1)).toNatClampNeg) (xs (nI (i + 2)).toNatClampNeg) (xs (nI (i + 3)).toNatClampNeg)).2.1.toInt64 else vo)) (kv := (k12 (fX6_bring g (xs (nI (i + 1)).toNatClampNeg) (xs (nI (i + 2)).toNatClampNeg) (xs (nI (i + 3)).toNatClampNeg)).1)) (As := [.ref (ad 0 0), .int (xs (nI (i + 1)).toNatClampNeg), .int (xs (nI (i + 2)).toNatClampNeg), .int (xs (nI (i + 3)).toNatClampNeg), .ref o]) (rest := []) ⟨C.hx, C.hb, C.ml, C.own, C.ts⟩ (kL_bring l D cy hI hl0 g o vo _ (xs (nI (i + 1)).toNatClampNeg) (xs (nI (i + 2)).toNatClampNeg) (xs (nI (i + 3)).toNatClampNeg) hv) (vx_cwSW 5 C.ts gL_law_L_bring rfl rfl rfl (by decide +kernel) ⟨Nat.le_of_ble_eq_true rfl, Nat.le_of_ble_eq_true rfl⟩) hB hL hS rfl hl.1 (Nat.le_of_ble_eq_true rfl) dL_law_368 ⟨by refine Nat.le_trans (m := 400000) ?_ rc_c; show cells + _ ≤ 400000; omega, by refine Nat.le_trans (m := 4000000) ?_ rc_s; show slots + _ ≤ 4000000; omega⟩ (fun H locs hL hS => ?_)
  refine lv_istore (lv' := [(5, .int (k12 (fX6_bring g (xs (nI (i + 1)).toNatClampNeg) (xs (nI (i + 2)).toNatClampNeg) (xs (nI (i + 3)).toNatClampNeg)).1)), (4, .int (nI i)), (0, .ref b), (1, .ref (ad 0 0)), (2, .ref mq), (3, .ref o)]) C.hx C.hb dL_law_371 hl (by decide) rfl (fun ls hl => ?_)
  refine lv_aload_n C.hx C.hb dL_law_373 rfl (lv_at hl 4 rfl) ?_
  refine lv_aload_n C.hx C.hb dL_law_374 rfl (lv_at hl 2 rfl) ?_
  refine lv_iload C.hx C.hb dL_law_375 (lv_at hl 1 rfl) ?_
  refine lv_iconst (v := 1) C.hx C.hb dL_law_377 (by decide) ?_
  refine lv_iadd C.hx C.hb dL_law_378 ?_
  refine q_val (v := nI (i + 1)) (nI_add i 1) ?_
  refine va_sld C.hx C.hb C.X C.bl (LA0_no C.bl) hS (vp_in_nI (by omega) (by have := C.le; omega)) dL_law_379 ?_
  refine lv_aload_n C.hx C.hb dL_law_380 rfl (lv_at hl 2 rfl) ?_
  refine lv_iload C.hx C.hb dL_law_381 (lv_at hl 1 rfl) ?_
  refine lv_iconst (v := 2) C.hx C.hb dL_law_383 (by decide) ?_
  refine lv_iadd C.hx C.hb dL_law_384 ?_
  refine q_val (v := nI (i + 2)) (nI_add i 2) ?_
  refine va_sld C.hx C.hb C.X C.bl (LA0_no C.bl) hS (vp_in_nI (by omega) (by have := C.le; omega)) dL_law_385 ?_
  refine lv_aload_n C.hx C.hb dL_law_386 rfl (lv_at hl 2 rfl) ?_
  refine lv_iload C.hx C.hb dL_law_387 (lv_at hl 1 rfl) ?_
  refine lv_iconst (v := 3) C.hx C.hb dL_law_389 (by decide) ?_
  refine lv_iadd C.hx C.hb dL_law_390 ?_
  refine q_val (v := nI (i + 3)) (nI_add i 3) ?_
  refine va_sld C.hx C.hb C.X C.bl (LA0_no C.bl) hS (vp_in_nI (by omega) (by have := C.le; omega)) dL_law_391 ?_
  refine l_callG (v := (fX7_bring (w 0 0) (w 0 1) (w 0 2) (w 0 3) (w 0 4) mm (xs (nI (i + 1)).toNatClampNeg) (xs (nI (i + 2)).toNatClampNeg) (xs (nI (i + 3)).toNatClampNeg)).1) (m2 := (fX7_bring (w 0 0) (w 0 1) (w 0 2) (w 0 3) (w 0 4) mm (xs (nI (i + 1)).toNatClampNeg) (xs (nI (i + 2)).toNatClampNeg) (xs (nI (i + 3)).toNatClampNeg)).2.1) (w2 := wG w 1 (fX7_bring (w 0 0) (w 0 1) (w 0 2) (w 0 3) (w 0 4) mm (xs (nI (i + 1)).toNatClampNeg) (xs (nI (i + 2)).toNatClampNeg) (xs (nI (i + 3)).toNatClampNeg)).2.2) hmq (As := [.int (xs (nI (i + 1)).toNatClampNeg), .int (xs (nI (i + 2)).toNatClampNeg), .int (xs (nI (i + 3)).toNatClampNeg)]) (rest := []) ⟨C.hx, C.hb, C.ml, C.own, C.ts⟩ (mX7_bring l D cy e0 mm SS _ (xs (nI (i + 1)).toNatClampNeg) (xs (nI (i + 2)).toNatClampNeg) (xs (nI (i + 3)).toNatClampNeg) hR.I hR.t4 hR.cap) (cwV 3 C.ts gL_law_X7_bring rfl rfl rfl (by decide +kernel) ⟨Nat.le_of_ble_eq_true rfl, Nat.le_of_ble_eq_true rfl⟩) hB hL hS rfl hl.1 (Nat.le_of_ble_eq_true rfl) dL_law_392 ⟨by refine Nat.le_trans (m := 400000) ?_ rc_c; show cells + _ + _ ≤ 400000; omega, by refine Nat.le_trans (m := 4000000) ?_ rc_s; show slots + _ + _ ≤ 4000000; omega⟩ (fun bd2 H locs hmq hL hS => ?_)
  refine lv_istore (lv' := [(6, .int (fX7_bring (w 0 0) (w 0 1) (w 0 2) (w 0 3) (w 0 4) mm (xs (nI (i + 1)).toNatClampNeg) (xs (nI (i + 2)).toNatClampNeg) (xs (nI (i + 3)).toNatClampNeg)).1), (5, .int (k12 (fX6_bring g (xs (nI (i + 1)).toNatClampNeg) (xs (nI (i + 2)).toNatClampNeg) (xs (nI (i + 3)).toNatClampNeg)).1)), (4, .int (nI i)), (0, .ref b), (1, .ref (ad 0 0)), (2, .ref mq), (3, .ref o)]) C.hx C.hb dL_law_395 hl (by decide) rfl (fun ls hl => ?_)
  refine lv_aload_n C.hx C.hb dL_law_397 rfl (lv_at hl 5 rfl) ?_
  refine l_callMi (v := (fX7_bring (w 0 0) (w 0 1) (w 0 2) (w 0 3) (w 0 4) mm (xs (nI (i + 1)).toNatClampNeg) (xs (nI (i + 2)).toNatClampNeg) (xs (nI (i + 3)).toNatClampNeg)).2.1 0 20) (m2 := (fX7_bring (w 0 0) (w 0 1) (w 0 2) (w 0 3) (w 0 4) mm (xs (nI (i + 1)).toNatClampNeg) (xs (nI (i + 2)).toNatClampNeg) (xs (nI (i + 3)).toNatClampNeg)).2.1) (S2 := SS) hmq (As := []) (rest := []) ⟨C.hx, C.hb, C.ml, C.own, C.ts⟩ (kX7_thrown l D cy e0 (fX7_bring (w 0 0) (w 0 1) (w 0 2) (w 0 3) (w 0 4) mm (xs (nI (i + 1)).toNatClampNeg) (xs (nI (i + 2)).toNatClampNeg) (xs (nI (i + 3)).toNatClampNeg)).2.1 SS _) (cwV 0 C.ts gL_law_X7_thrown rfl rfl rfl (by decide +kernel) ⟨Nat.le_of_ble_eq_true rfl, Nat.le_of_ble_eq_true rfl⟩) hB hL hS rfl hl.1 (Nat.le_of_ble_eq_true rfl) dL_law_398 ⟨by refine Nat.le_trans (m := 400000) ?_ rc_c; show cells + _ + _ + _ ≤ 400000; omega, by refine Nat.le_trans (m := 4000000) ?_ rc_s; show slots + _ + _ + _ ≤ 4000000; omega⟩ (fun H locs hL hS => ?_)
  refine lv_iload C.hx C.hb dL_law_401 (lv_at hl 1 rfl) ?_
  refine lv_icmp_eq (tgt := 408) C.hx C.hb dL_law_403 (by decide) (fun _ => ?_) (fun c => absurd hP.1 c)
  have hn := n01_bring (w 0 0) (w 0 1) (w 0 2) (w 0 3) (w 0 4) mm (xs (nI (i + 1)).toNatClampNeg) (xs (nI (i + 2)).toNatClampNeg) (xs (nI (i + 3)).toNatClampNeg)
  have K : W p l e room_1 s m #[Value.ref b] below meth c H locs (cells + 2 + 2 + 0) (slots + 12 + 70 + 0) Q (F0 m 425 ls []) := by
    refine lv_goto (tgt := 2075) C.hx C.hb dL_law_425 (by decide) ?_
    refine W.widen (k := cells + 450) (n := slots + 6200) (by omega) (by omega) ?_
    exact kk _ _ _ (wG w 1 (fX7_bring (w 0 0) (w 0 1) (w 0 2) (w 0 3) (w 0 4) mm (xs (nI (i + 1)).toNatClampNeg) (xs (nI (i + 2)).toNatClampNeg) (xs (nI (i + 3)).toNatClampNeg)).2.2) _ _ _ _ ls hL (RS.of hP (by rw [wG_size (by decide) hn]; rfl) (by rw [wG_size (by decide) hn]; rfl) (by rw [wG_size (by decide) hn]; rfl) (by rw [wG_size (by decide) hn]; rfl) (by rw [wG_size (by decide) hn]; exact hR.t4) (fun i hi => capI_G (by decide) hR.cap hi)) hS hmq (lv_sub hl [2, 3, 4, 5, 6] rfl)
  refine lv_iload C.hx C.hb dL_law_408 (lv_at hl 1 rfl) ?_
  refine lv_if_ne (tgt := 425) C.hx C.hb dL_law_410 (by decide) (fun _ => K) (fun hz => ?_)
  have hc0 : (fX6_bring g (xs (nI (i + 1)).toNatClampNeg) (xs (nI (i + 2)).toNatClampNeg) (xs (nI (i + 3)).toNatClampNeg)).1 = 0 := by
    rcases hcd with h | h | h | h
    · exact h
    · exact absurd (show (k12 (fX6_bring g (xs (nI (i + 1)).toNatClampNeg) (xs (nI (i + 2)).toNatClampNeg) (xs (nI (i + 3)).toNatClampNeg)).1) = 0 from Classical.byContradiction (fun q => by first | exact hz q | exact q hz)) (by rw [h.1]; decide)
    · exact absurd (show (k12 (fX6_bring g (xs (nI (i + 1)).toNatClampNeg) (xs (nI (i + 2)).toNatClampNeg) (xs (nI (i + 3)).toNatClampNeg)).1) = 0 from Classical.byContradiction (fun q => by first | exact hz q | exact q hz)) (by rw [h.1]; decide)
    · exact absurd (show (k12 (fX6_bring g (xs (nI (i + 1)).toNatClampNeg) (xs (nI (i + 2)).toNatClampNeg) (xs (nI (i + 3)).toNatClampNeg)).1) = 0 from Classical.byContradiction (fun q => by first | exact hz q | exact q hz)) (by rw [h.1]; decide)
  refine lv_aload_n C.hx C.hb dL_law_413 rfl (lv_at hl 6 rfl) ?_
  refine lv_iconst (v := 0) C.hx C.hb dL_law_414 (by decide) ?_
  refine l_lald C.hx C.hb hB hL dL_law_415 ?_
  refine l_val (v := (fX7_bring (w 0 0) (w 0 1) (w 0 2) (w 0 3) (w 0 4) mm (xs (nI (i + 1)).toNatClampNeg) (xs (nI (i + 2)).toNatClampNeg) (xs (nI (i + 3)).toNatClampNeg)).1.toInt64) (by rw [if_pos hc0]; exact congrArg Int32.toInt64 (hP.2.1 hc0)) ?_
  refine lv_iload C.hx C.hb dL_law_416 (lv_at hl 0 rfl) ?_
  refine lv_i2l C.hx C.hb dL_law_418 rfl ?_
  refine W.lcmp C.hx C.hb dL_law_419 ?_
  refine lv_if_eq (tgt := 425) C.hx C.hb dL_law_420 (by decide) (fun _ => K) (fun c => absurd (lcmp_self _) c)
set_option maxRecDepth 100000 in
set_option maxHeartbeats 4000000 in
theorem op_pass (C : LC p l s m c b L xs) (hI : cI ad) (hB : LWB D cy e0 s) (hL : LWS D cy ad o e0 s g vo bd w mm SS H) (hR : RS g mm w) (hS : va_S (LA0 s) s.heap H locs) (hmq : bd 0 0 = mq) (hi : i + 5 ≤ L) (hc : cells + 450 ≤ 400000) (hs : slots + 6200 ≤ 4000000) (hl : lv_has ls 9 [(4, .int (nI i)), (0, .ref b), (1, .ref (ad 0 0)), (2, .ref mq), (3, .ref o)])
    (kk : ∀ (g2 : Gd) (v2 : Int64) (bd2 w2 : Nat → Nat → Nat) (m2 : Md) (S2 : Int64) (H1 : Heap) (locs1 : List Loc) (ls1 : Array Slot), LWS D cy ad o e0 s g2 v2 bd2 w2 m2 S2 H1 → RS g2 m2 w2 → va_S (LA0 s) s.heap H1 locs1 → bd2 0 0 = mq → lv_has ls1 9 [(4, .int (nI i)), (0, .ref b), (1, .ref (ad 0 0)), (2, .ref mq), (3, .ref o)] → W p l e room_1 s m #[Value.ref b] below meth c H1 locs1 (cells + 450) (slots + 6200) Q (F0 m 2075 ls1 [])) :
    W p l e room_1 s m #[Value.ref b] below meth c H locs cells slots Q (F0 m 428 ls []) := by
  have hI0 := hI
  have hl0 := C.st
  have hP : Ok (w 0 0) (w 0 1) (w 0 2) (w 0 3) (k23 (fX6_pass g (xs (nI (i + 1)).toNatClampNeg) (xs (nI (i + 2)).toNatClampNeg) (xs (nI (i + 3)).toNatClampNeg)).1) (fX6_pass g (xs (nI (i + 1)).toNatClampNeg) (xs (nI (i + 2)).toNatClampNeg) (xs (nI (i + 3)).toNatClampNeg)).1 (fX6_pass g (xs (nI (i + 1)).toNatClampNeg) (xs (nI (i + 2)).toNatClampNeg) (xs (nI (i + 3)).toNatClampNeg)).2.1 (fX6_pass g (xs (nI (i + 1)).toNatClampNeg) (xs (nI (i + 2)).toNatClampNeg) (xs (nI (i + 3)).toNatClampNeg)).2.2 (fX7_pass_ (w 0 0) (w 0 1) (w 0 2) (w 0 3) (w 0 4) mm (xs (nI (i + 1)).toNatClampNeg) (xs (nI (i + 2)).toNatClampNeg) (xs (nI (i + 3)).toNatClampNeg)).1 (fX7_pass_ (w 0 0) (w 0 1) (w 0 2) (w 0 3) (w 0 4) mm (xs (nI (i + 1)).toNatClampNeg) (xs (nI (i + 2)).toNatClampNeg) (xs (nI (i + 3)).toNatClampNeg)).2 := by rw [hR.t4]; exact P_pass (T := 0) hR.R hR.I hR.T (xs (nI (i + 1)).toNatClampNeg) (xs (nI (i + 2)).toNatClampNeg) (xs (nI (i + 3)).toNatClampNeg)
  have hcd := cd_pass g (xs (nI (i + 1)).toNatClampNeg) (xs (nI (i + 2)).toNatClampNeg) (xs (nI (i + 3)).toNatClampNeg)
  have hv : IvC g := ivC_of hR.R hR.I hR.T
  have hLL := C.le
  refine lv_aload_n C.hx C.hb dL_law_428 rfl (lv_at hl 2 rfl) ?_
  refine lv_aload_n C.hx C.hb dL_law_429 rfl (lv_at hl 1 rfl) ?_
  refine lv_iload C.hx C.hb dL_law_430 (lv_at hl 0 rfl) ?_
  refine lv_iconst (v := 1) C.hx C.hb dL_law_432 (by decide) ?_
  refine lv_iadd C.hx C.hb dL_law_433 ?_
  refine q_val (v := nI (i + 1)) (nI_add i 1) ?_
  refine va_sld C.hx C.hb C.X C.bl (LA0_no C.bl) hS (vp_in_nI (by omega) (by have := C.le; omega)) dL_law_434 ?_
  refine lv_aload_n C.hx C.hb dL_law_435 rfl (lv_at hl 1 rfl) ?_
  refine lv_iload C.hx C.hb dL_law_436 (lv_at hl 0 rfl) ?_
  refine lv_iconst (v := 2) C.hx C.hb dL_law_438 (by decide) ?_
  refine lv_iadd C.hx C.hb dL_law_439 ?_
  refine q_val (v := nI (i + 2)) (nI_add i 2) ?_
  refine va_sld C.hx C.hb C.X C.bl (LA0_no C.bl) hS (vp_in_nI (by omega) (by have := C.le; omega)) dL_law_440 ?_
  refine lv_aload_n C.hx C.hb dL_law_441 rfl (lv_at hl 1 rfl) ?_
  refine lv_iload C.hx C.hb dL_law_442 (lv_at hl 0 rfl) ?_
  refine lv_iconst (v := 3) C.hx C.hb dL_law_444 (by decide) ?_
  refine lv_iadd C.hx C.hb dL_law_445 ?_
  refine q_val (v := nI (i + 3)) (nI_add i 3) ?_
  refine va_sld C.hx C.hb C.X C.bl (LA0_no C.bl) hS (vp_in_nI (by omega) (by have := C.le; omega)) dL_law_446 ?_
  refine lv_aload_n C.hx C.hb dL_law_447 rfl (lv_at hl 4 rfl) ?_
  refine l_callO (g2 := (fX6_pass g (xs (nI (i + 1)).toNatClampNeg) (xs (nI (i + 2)).toNatClampNeg) (xs (nI (i + 3)).toNatClampNeg)).2.2) (v2 := (if (fX6_pass g (xs (nI (i + 1)).toNatClampNeg) (xs (nI (i + 2)).toNatClampNeg) (xs (nI (i + 3)).toNatClampNeg)).1 = 0 then (fX6_pass g (xs (nI (i + 1)).toNatClampNeg) (xs (nI (i + 2)).toNatClampNeg) (xs (nI (i + 3)).toNatClampNeg)).2.1.toInt64 else vo)) (kv := (k23 (fX6_pass g (xs (nI (i + 1)).toNatClampNeg) (xs (nI (i + 2)).toNatClampNeg) (xs (nI (i + 3)).toNatClampNeg)).1)) (As := [.ref (ad 0 0), .int (xs (nI (i + 1)).toNatClampNeg), .int (xs (nI (i + 2)).toNatClampNeg), .int (xs (nI (i + 3)).toNatClampNeg), .ref o]) (rest := []) ⟨C.hx, C.hb, C.ml, C.own, C.ts⟩ (kL_pass l D cy hI hl0 g o vo _ (xs (nI (i + 1)).toNatClampNeg) (xs (nI (i + 2)).toNatClampNeg) (xs (nI (i + 3)).toNatClampNeg) hv) (vx_cwSW 5 C.ts gL_law_L_pass rfl rfl rfl (by decide +kernel) ⟨Nat.le_of_ble_eq_true rfl, Nat.le_of_ble_eq_true rfl⟩) hB hL hS rfl hl.1 (Nat.le_of_ble_eq_true rfl) dL_law_448 ⟨by refine Nat.le_trans (m := 400000) ?_ rc_c; show cells + _ ≤ 400000; omega, by refine Nat.le_trans (m := 4000000) ?_ rc_s; show slots + _ ≤ 4000000; omega⟩ (fun H locs hL hS => ?_)
  refine lv_istore (lv' := [(5, .int (k23 (fX6_pass g (xs (nI (i + 1)).toNatClampNeg) (xs (nI (i + 2)).toNatClampNeg) (xs (nI (i + 3)).toNatClampNeg)).1)), (4, .int (nI i)), (0, .ref b), (1, .ref (ad 0 0)), (2, .ref mq), (3, .ref o)]) C.hx C.hb dL_law_451 hl (by decide) rfl (fun ls hl => ?_)
  refine lv_aload_n C.hx C.hb dL_law_453 rfl (lv_at hl 4 rfl) ?_
  refine lv_aload_n C.hx C.hb dL_law_454 rfl (lv_at hl 2 rfl) ?_
  refine lv_iload C.hx C.hb dL_law_455 (lv_at hl 1 rfl) ?_
  refine lv_iconst (v := 1) C.hx C.hb dL_law_457 (by decide) ?_
  refine lv_iadd C.hx C.hb dL_law_458 ?_
  refine q_val (v := nI (i + 1)) (nI_add i 1) ?_
  refine va_sld C.hx C.hb C.X C.bl (LA0_no C.bl) hS (vp_in_nI (by omega) (by have := C.le; omega)) dL_law_459 ?_
  refine lv_aload_n C.hx C.hb dL_law_460 rfl (lv_at hl 2 rfl) ?_
  refine lv_iload C.hx C.hb dL_law_461 (lv_at hl 1 rfl) ?_
  refine lv_iconst (v := 2) C.hx C.hb dL_law_463 (by decide) ?_
  refine lv_iadd C.hx C.hb dL_law_464 ?_
  refine q_val (v := nI (i + 2)) (nI_add i 2) ?_
  refine va_sld C.hx C.hb C.X C.bl (LA0_no C.bl) hS (vp_in_nI (by omega) (by have := C.le; omega)) dL_law_465 ?_
  refine lv_aload_n C.hx C.hb dL_law_466 rfl (lv_at hl 2 rfl) ?_
  refine lv_iload C.hx C.hb dL_law_467 (lv_at hl 1 rfl) ?_
  refine lv_iconst (v := 3) C.hx C.hb dL_law_469 (by decide) ?_
  refine lv_iadd C.hx C.hb dL_law_470 ?_
  refine q_val (v := nI (i + 3)) (nI_add i 3) ?_
  refine va_sld C.hx C.hb C.X C.bl (LA0_no C.bl) hS (vp_in_nI (by omega) (by have := C.le; omega)) dL_law_471 ?_
  refine l_callMi (v := (fX7_pass_ (w 0 0) (w 0 1) (w 0 2) (w 0 3) (w 0 4) mm (xs (nI (i + 1)).toNatClampNeg) (xs (nI (i + 2)).toNatClampNeg) (xs (nI (i + 3)).toNatClampNeg)).1) (m2 := (fX7_pass_ (w 0 0) (w 0 1) (w 0 2) (w 0 3) (w 0 4) mm (xs (nI (i + 1)).toNatClampNeg) (xs (nI (i + 2)).toNatClampNeg) (xs (nI (i + 3)).toNatClampNeg)).2) (S2 := SS) hmq (As := [.int (xs (nI (i + 1)).toNatClampNeg), .int (xs (nI (i + 2)).toNatClampNeg), .int (xs (nI (i + 3)).toNatClampNeg)]) (rest := []) ⟨C.hx, C.hb, C.ml, C.own, C.ts⟩ (mX7_pass_ l D cy e0 mm SS _ (xs (nI (i + 1)).toNatClampNeg) (xs (nI (i + 2)).toNatClampNeg) (xs (nI (i + 3)).toNatClampNeg) hR.I hR.t4 hR.cap) (cwV 3 C.ts gL_law_X7_pass_ rfl rfl rfl (by decide +kernel) ⟨Nat.le_of_ble_eq_true rfl, Nat.le_of_ble_eq_true rfl⟩) hB hL hS rfl hl.1 (Nat.le_of_ble_eq_true rfl) dL_law_472 ⟨by refine Nat.le_trans (m := 400000) ?_ rc_c; show cells + _ + _ ≤ 400000; omega, by refine Nat.le_trans (m := 4000000) ?_ rc_s; show slots + _ + _ ≤ 4000000; omega⟩ (fun H locs hL hS => ?_)
  refine lv_istore (lv' := [(6, .int (fX7_pass_ (w 0 0) (w 0 1) (w 0 2) (w 0 3) (w 0 4) mm (xs (nI (i + 1)).toNatClampNeg) (xs (nI (i + 2)).toNatClampNeg) (xs (nI (i + 3)).toNatClampNeg)).1), (5, .int (k23 (fX6_pass g (xs (nI (i + 1)).toNatClampNeg) (xs (nI (i + 2)).toNatClampNeg) (xs (nI (i + 3)).toNatClampNeg)).1)), (4, .int (nI i)), (0, .ref b), (1, .ref (ad 0 0)), (2, .ref mq), (3, .ref o)]) C.hx C.hb dL_law_475 hl (by decide) rfl (fun ls hl => ?_)
  refine lv_aload_n C.hx C.hb dL_law_477 rfl (lv_at hl 5 rfl) ?_
  refine l_callMi (v := (fX7_pass_ (w 0 0) (w 0 1) (w 0 2) (w 0 3) (w 0 4) mm (xs (nI (i + 1)).toNatClampNeg) (xs (nI (i + 2)).toNatClampNeg) (xs (nI (i + 3)).toNatClampNeg)).2 0 20) (m2 := (fX7_pass_ (w 0 0) (w 0 1) (w 0 2) (w 0 3) (w 0 4) mm (xs (nI (i + 1)).toNatClampNeg) (xs (nI (i + 2)).toNatClampNeg) (xs (nI (i + 3)).toNatClampNeg)).2) (S2 := SS) hmq (As := []) (rest := []) ⟨C.hx, C.hb, C.ml, C.own, C.ts⟩ (kX7_thrown l D cy e0 (fX7_pass_ (w 0 0) (w 0 1) (w 0 2) (w 0 3) (w 0 4) mm (xs (nI (i + 1)).toNatClampNeg) (xs (nI (i + 2)).toNatClampNeg) (xs (nI (i + 3)).toNatClampNeg)).2 SS _) (cwV 0 C.ts gL_law_X7_thrown rfl rfl rfl (by decide +kernel) ⟨Nat.le_of_ble_eq_true rfl, Nat.le_of_ble_eq_true rfl⟩) hB hL hS rfl hl.1 (Nat.le_of_ble_eq_true rfl) dL_law_478 ⟨by refine Nat.le_trans (m := 400000) ?_ rc_c; show cells + _ + _ + _ ≤ 400000; omega, by refine Nat.le_trans (m := 4000000) ?_ rc_s; show slots + _ + _ + _ ≤ 4000000; omega⟩ (fun H locs hL hS => ?_)
  refine lv_iload C.hx C.hb dL_law_481 (lv_at hl 1 rfl) ?_
  refine lv_icmp_eq (tgt := 488) C.hx C.hb dL_law_483 (by decide) (fun _ => ?_) (fun c => absurd hP.1 c)
  have K : W p l e room_1 s m #[Value.ref b] below meth c H locs (cells + 1 + 300 + 0) (slots + 6 + 1200 + 0) Q (F0 m 505 ls []) := by
    refine lv_goto (tgt := 2075) C.hx C.hb dL_law_505 (by decide) ?_
    refine W.widen (k := cells + 450) (n := slots + 6200) (by omega) (by omega) ?_
    exact kk _ _ _ w _ _ _ _ ls hL (RS.of hP rfl rfl rfl rfl hR.t4 hR.cap) hS hmq (lv_sub hl [2, 3, 4, 5, 6] rfl)
  refine lv_iload C.hx C.hb dL_law_488 (lv_at hl 1 rfl) ?_
  refine lv_if_ne (tgt := 505) C.hx C.hb dL_law_490 (by decide) (fun _ => K) (fun hz => ?_)
  have hc0 : (fX6_pass g (xs (nI (i + 1)).toNatClampNeg) (xs (nI (i + 2)).toNatClampNeg) (xs (nI (i + 3)).toNatClampNeg)).1 = 0 := by
    rcases hcd with h | h | h
    · exact h
    · exact absurd (show (k23 (fX6_pass g (xs (nI (i + 1)).toNatClampNeg) (xs (nI (i + 2)).toNatClampNeg) (xs (nI (i + 3)).toNatClampNeg)).1) = 0 from Classical.byContradiction (fun q => by first | exact hz q | exact q hz)) (by rw [h.1]; decide)
    · exact absurd (show (k23 (fX6_pass g (xs (nI (i + 1)).toNatClampNeg) (xs (nI (i + 2)).toNatClampNeg) (xs (nI (i + 3)).toNatClampNeg)).1) = 0 from Classical.byContradiction (fun q => by first | exact hz q | exact q hz)) (by rw [h.1]; decide)
  refine lv_aload_n C.hx C.hb dL_law_493 rfl (lv_at hl 6 rfl) ?_
  refine lv_iconst (v := 0) C.hx C.hb dL_law_494 (by decide) ?_
  refine l_lald C.hx C.hb hB hL dL_law_495 ?_
  refine l_val (v := (fX7_pass_ (w 0 0) (w 0 1) (w 0 2) (w 0 3) (w 0 4) mm (xs (nI (i + 1)).toNatClampNeg) (xs (nI (i + 2)).toNatClampNeg) (xs (nI (i + 3)).toNatClampNeg)).1.toInt64) (by rw [if_pos hc0]; exact congrArg Int32.toInt64 (hP.2.1 hc0)) ?_
  refine lv_iload C.hx C.hb dL_law_496 (lv_at hl 0 rfl) ?_
  refine lv_i2l C.hx C.hb dL_law_498 rfl ?_
  refine W.lcmp C.hx C.hb dL_law_499 ?_
  refine lv_if_eq (tgt := 505) C.hx C.hb dL_law_500 (by decide) (fun _ => K) (fun c => absurd (lcmp_self _) c)
set_option maxRecDepth 100000 in
set_option maxHeartbeats 4000000 in
theorem op_bed (C : LC p l s m c b L xs) (hI : cI ad) (hB : LWB D cy e0 s) (hL : LWS D cy ad o e0 s g vo bd w mm SS H) (hR : RS g mm w) (hS : va_S (LA0 s) s.heap H locs) (hmq : bd 0 0 = mq) (hi : i + 5 ≤ L) (hc : cells + 450 ≤ 400000) (hs : slots + 6200 ≤ 4000000) (hl : lv_has ls 9 [(4, .int (nI i)), (0, .ref b), (1, .ref (ad 0 0)), (2, .ref mq), (3, .ref o)])
    (kk : ∀ (g2 : Gd) (v2 : Int64) (bd2 w2 : Nat → Nat → Nat) (m2 : Md) (S2 : Int64) (H1 : Heap) (locs1 : List Loc) (ls1 : Array Slot), LWS D cy ad o e0 s g2 v2 bd2 w2 m2 S2 H1 → RS g2 m2 w2 → va_S (LA0 s) s.heap H1 locs1 → bd2 0 0 = mq → lv_has ls1 9 [(4, .int (nI i)), (0, .ref b), (1, .ref (ad 0 0)), (2, .ref mq), (3, .ref o)] → W p l e room_1 s m #[Value.ref b] below meth c H1 locs1 (cells + 450) (slots + 6200) Q (F0 m 2075 ls1 [])) :
    W p l e room_1 s m #[Value.ref b] below meth c H locs cells slots Q (F0 m 508 ls []) := by
  have hI0 := hI
  have hl0 := C.st
  have hP : Ok (w 0 0) (w 0 1) (w 0 2 + (fX7_bed (w 0 0) (w 0 1) (w 0 2) (w 0 3) (w 0 4) mm (xs (nI (i + 1)).toNatClampNeg)).2.2) (w 0 3) (k23 (fX6_bed g (xs (nI (i + 1)).toNatClampNeg)).1) (fX6_bed g (xs (nI (i + 1)).toNatClampNeg)).1 (fX6_bed g (xs (nI (i + 1)).toNatClampNeg)).2.1 (fX6_bed g (xs (nI (i + 1)).toNatClampNeg)).2.2 (fX7_bed (w 0 0) (w 0 1) (w 0 2) (w 0 3) (w 0 4) mm (xs (nI (i + 1)).toNatClampNeg)).1 (fX7_bed (w 0 0) (w 0 1) (w 0 2) (w 0 3) (w 0 4) mm (xs (nI (i + 1)).toNatClampNeg)).2.1 := by rw [hR.t4]; exact P_bed hR.R hR.I hR.T (xs (nI (i + 1)).toNatClampNeg)
  have hcd := cd_bed g (xs (nI (i + 1)).toNatClampNeg)
  have hv : IvC g := ivC_of hR.R hR.I hR.T
  have hLL := C.le
  refine lv_aload_n C.hx C.hb dL_law_508 rfl (lv_at hl 2 rfl) ?_
  refine lv_aload_n C.hx C.hb dL_law_509 rfl (lv_at hl 1 rfl) ?_
  refine lv_iload C.hx C.hb dL_law_510 (lv_at hl 0 rfl) ?_
  refine lv_iconst (v := 1) C.hx C.hb dL_law_512 (by decide) ?_
  refine lv_iadd C.hx C.hb dL_law_513 ?_
  refine q_val (v := nI (i + 1)) (nI_add i 1) ?_
  refine va_sld C.hx C.hb C.X C.bl (LA0_no C.bl) hS (vp_in_nI (by omega) (by have := C.le; omega)) dL_law_514 ?_
  refine lv_aload_n C.hx C.hb dL_law_515 rfl (lv_at hl 4 rfl) ?_
  refine l_callO (g2 := (fX6_bed g (xs (nI (i + 1)).toNatClampNeg)).2.2) (v2 := (if (fX6_bed g (xs (nI (i + 1)).toNatClampNeg)).1 = 0 then (fX6_bed g (xs (nI (i + 1)).toNatClampNeg)).2.1.toInt64 else vo)) (kv := (k23 (fX6_bed g (xs (nI (i + 1)).toNatClampNeg)).1)) (As := [.ref (ad 0 0), .int (xs (nI (i + 1)).toNatClampNeg), .ref o]) (rest := []) ⟨C.hx, C.hb, C.ml, C.own, C.ts⟩ (kL_bed l D cy hI hl0 g o vo _ (xs (nI (i + 1)).toNatClampNeg) hv) (vx_cwSW 3 C.ts gL_law_L_bed rfl rfl rfl (by decide +kernel) ⟨Nat.le_of_ble_eq_true rfl, Nat.le_of_ble_eq_true rfl⟩) hB hL hS rfl hl.1 (Nat.le_of_ble_eq_true rfl) dL_law_516 ⟨by refine Nat.le_trans (m := 400000) ?_ rc_c; show cells + _ ≤ 400000; omega, by refine Nat.le_trans (m := 4000000) ?_ rc_s; show slots + _ ≤ 4000000; omega⟩ (fun H locs hL hS => ?_)
  refine lv_istore (lv' := [(5, .int (k23 (fX6_bed g (xs (nI (i + 1)).toNatClampNeg)).1)), (4, .int (nI i)), (0, .ref b), (1, .ref (ad 0 0)), (2, .ref mq), (3, .ref o)]) C.hx C.hb dL_law_519 hl (by decide) rfl (fun ls hl => ?_)
  refine lv_aload_n C.hx C.hb dL_law_521 rfl (lv_at hl 4 rfl) ?_
  refine lv_aload_n C.hx C.hb dL_law_522 rfl (lv_at hl 2 rfl) ?_
  refine lv_iload C.hx C.hb dL_law_523 (lv_at hl 1 rfl) ?_
  refine lv_iconst (v := 1) C.hx C.hb dL_law_525 (by decide) ?_
  refine lv_iadd C.hx C.hb dL_law_526 ?_
  refine q_val (v := nI (i + 1)) (nI_add i 1) ?_
  refine va_sld C.hx C.hb C.X C.bl (LA0_no C.bl) hS (vp_in_nI (by omega) (by have := C.le; omega)) dL_law_527 ?_
  refine l_callG (v := (fX7_bed (w 0 0) (w 0 1) (w 0 2) (w 0 3) (w 0 4) mm (xs (nI (i + 1)).toNatClampNeg)).1) (m2 := (fX7_bed (w 0 0) (w 0 1) (w 0 2) (w 0 3) (w 0 4) mm (xs (nI (i + 1)).toNatClampNeg)).2.1) (w2 := wG w 2 (fX7_bed (w 0 0) (w 0 1) (w 0 2) (w 0 3) (w 0 4) mm (xs (nI (i + 1)).toNatClampNeg)).2.2) hmq (As := [.int (xs (nI (i + 1)).toNatClampNeg)]) (rest := []) ⟨C.hx, C.hb, C.ml, C.own, C.ts⟩ (mX7_bed l D cy e0 mm SS _ (xs (nI (i + 1)).toNatClampNeg) hR.I hR.t4 hR.cap) (cwV 1 C.ts gL_law_X7_bed rfl rfl rfl (by decide +kernel) ⟨Nat.le_of_ble_eq_true rfl, Nat.le_of_ble_eq_true rfl⟩) hB hL hS rfl hl.1 (Nat.le_of_ble_eq_true rfl) dL_law_528 ⟨by refine Nat.le_trans (m := 400000) ?_ rc_c; show cells + _ + _ ≤ 400000; omega, by refine Nat.le_trans (m := 4000000) ?_ rc_s; show slots + _ + _ ≤ 4000000; omega⟩ (fun bd2 H locs hmq hL hS => ?_)
  refine lv_istore (lv' := [(6, .int (fX7_bed (w 0 0) (w 0 1) (w 0 2) (w 0 3) (w 0 4) mm (xs (nI (i + 1)).toNatClampNeg)).1), (5, .int (k23 (fX6_bed g (xs (nI (i + 1)).toNatClampNeg)).1)), (4, .int (nI i)), (0, .ref b), (1, .ref (ad 0 0)), (2, .ref mq), (3, .ref o)]) C.hx C.hb dL_law_531 hl (by decide) rfl (fun ls hl => ?_)
  refine lv_aload_n C.hx C.hb dL_law_533 rfl (lv_at hl 5 rfl) ?_
  refine l_callMi (v := (fX7_bed (w 0 0) (w 0 1) (w 0 2) (w 0 3) (w 0 4) mm (xs (nI (i + 1)).toNatClampNeg)).2.1 0 20) (m2 := (fX7_bed (w 0 0) (w 0 1) (w 0 2) (w 0 3) (w 0 4) mm (xs (nI (i + 1)).toNatClampNeg)).2.1) (S2 := SS) hmq (As := []) (rest := []) ⟨C.hx, C.hb, C.ml, C.own, C.ts⟩ (kX7_thrown l D cy e0 (fX7_bed (w 0 0) (w 0 1) (w 0 2) (w 0 3) (w 0 4) mm (xs (nI (i + 1)).toNatClampNeg)).2.1 SS _) (cwV 0 C.ts gL_law_X7_thrown rfl rfl rfl (by decide +kernel) ⟨Nat.le_of_ble_eq_true rfl, Nat.le_of_ble_eq_true rfl⟩) hB hL hS rfl hl.1 (Nat.le_of_ble_eq_true rfl) dL_law_534 ⟨by refine Nat.le_trans (m := 400000) ?_ rc_c; show cells + _ + _ + _ ≤ 400000; omega, by refine Nat.le_trans (m := 4000000) ?_ rc_s; show slots + _ + _ + _ ≤ 4000000; omega⟩ (fun H locs hL hS => ?_)
  refine lv_iload C.hx C.hb dL_law_537 (lv_at hl 1 rfl) ?_
  refine lv_icmp_eq (tgt := 544) C.hx C.hb dL_law_539 (by decide) (fun _ => ?_) (fun c => absurd hP.1 c)
  have hn := n01_bed (w 0 0) (w 0 1) (w 0 2) (w 0 3) (w 0 4) mm (xs (nI (i + 1)).toNatClampNeg)
  have K : W p l e room_1 s m #[Value.ref b] below meth c H locs (cells + 1 + 2 + 0) (slots + 6 + 87 + 0) Q (F0 m 561 ls []) := by
    refine lv_goto (tgt := 2075) C.hx C.hb dL_law_561 (by decide) ?_
    refine W.widen (k := cells + 450) (n := slots + 6200) (by omega) (by omega) ?_
    exact kk _ _ _ (wG w 2 (fX7_bed (w 0 0) (w 0 1) (w 0 2) (w 0 3) (w 0 4) mm (xs (nI (i + 1)).toNatClampNeg)).2.2) _ _ _ _ ls hL (RS.of hP (by rw [wG_size (by decide) hn]; rfl) (by rw [wG_size (by decide) hn]; rfl) (by rw [wG_size (by decide) hn]; rfl) (by rw [wG_size (by decide) hn]; rfl) (by rw [wG_size (by decide) hn]; exact hR.t4) (fun i hi => capI_G (by decide) hR.cap hi)) hS hmq (lv_sub hl [2, 3, 4, 5, 6] rfl)
  refine lv_iload C.hx C.hb dL_law_544 (lv_at hl 1 rfl) ?_
  refine lv_if_ne (tgt := 561) C.hx C.hb dL_law_546 (by decide) (fun _ => K) (fun hz => ?_)
  have hc0 : (fX6_bed g (xs (nI (i + 1)).toNatClampNeg)).1 = 0 := by
    rcases hcd with h | h | h
    · exact h
    · exact absurd (show (k23 (fX6_bed g (xs (nI (i + 1)).toNatClampNeg)).1) = 0 from Classical.byContradiction (fun q => by first | exact hz q | exact q hz)) (by rw [h.1]; decide)
    · exact absurd (show (k23 (fX6_bed g (xs (nI (i + 1)).toNatClampNeg)).1) = 0 from Classical.byContradiction (fun q => by first | exact hz q | exact q hz)) (by rw [h.1]; decide)
  refine lv_aload_n C.hx C.hb dL_law_549 rfl (lv_at hl 6 rfl) ?_
  refine lv_iconst (v := 0) C.hx C.hb dL_law_550 (by decide) ?_
  refine l_lald C.hx C.hb hB hL dL_law_551 ?_
  refine l_val (v := (fX7_bed (w 0 0) (w 0 1) (w 0 2) (w 0 3) (w 0 4) mm (xs (nI (i + 1)).toNatClampNeg)).1.toInt64) (by rw [if_pos hc0]; exact congrArg Int32.toInt64 (hP.2.1 hc0)) ?_
  refine lv_iload C.hx C.hb dL_law_552 (lv_at hl 0 rfl) ?_
  refine lv_i2l C.hx C.hb dL_law_554 rfl ?_
  refine W.lcmp C.hx C.hb dL_law_555 ?_
  refine lv_if_eq (tgt := 561) C.hx C.hb dL_law_556 (by decide) (fun _ => K) (fun c => absurd (lcmp_self _) c)
set_option maxRecDepth 100000 in
set_option maxHeartbeats 4000000 in
theorem op_pulp (C : LC p l s m c b L xs) (hI : cI ad) (hB : LWB D cy e0 s) (hL : LWS D cy ad o e0 s g vo bd w mm SS H) (hR : RS g mm w) (hS : va_S (LA0 s) s.heap H locs) (hmq : bd 0 0 = mq) (hi : i + 5 ≤ L) (hc : cells + 450 ≤ 400000) (hs : slots + 6200 ≤ 4000000) (hl : lv_has ls 9 [(4, .int (nI i)), (0, .ref b), (1, .ref (ad 0 0)), (2, .ref mq), (3, .ref o)])
    (kk : ∀ (g2 : Gd) (v2 : Int64) (bd2 w2 : Nat → Nat → Nat) (m2 : Md) (S2 : Int64) (H1 : Heap) (locs1 : List Loc) (ls1 : Array Slot), LWS D cy ad o e0 s g2 v2 bd2 w2 m2 S2 H1 → RS g2 m2 w2 → va_S (LA0 s) s.heap H1 locs1 → bd2 0 0 = mq → lv_has ls1 9 [(4, .int (nI i)), (0, .ref b), (1, .ref (ad 0 0)), (2, .ref mq), (3, .ref o)] → W p l e room_1 s m #[Value.ref b] below meth c H1 locs1 (cells + 450) (slots + 6200) Q (F0 m 2075 ls1 [])) :
    W p l e room_1 s m #[Value.ref b] below meth c H locs cells slots Q (F0 m 564 ls []) := by
  have hI0 := hI
  have hl0 := C.st
  have hP : Ok (w 0 0) (w 0 1) (w 0 2) (w 0 3) (k13 (fX6_pulp g (xs (nI (i + 1)).toNatClampNeg) (xs (nI (i + 2)).toNatClampNeg)).1) (fX6_pulp g (xs (nI (i + 1)).toNatClampNeg) (xs (nI (i + 2)).toNatClampNeg)).1 (fX6_pulp g (xs (nI (i + 1)).toNatClampNeg) (xs (nI (i + 2)).toNatClampNeg)).2.1 (fX6_pulp g (xs (nI (i + 1)).toNatClampNeg) (xs (nI (i + 2)).toNatClampNeg)).2.2 (fX7_pulp (w 0 0) (w 0 1) (w 0 2) (w 0 3) (w 0 4) mm (xs (nI (i + 1)).toNatClampNeg) (xs (nI (i + 2)).toNatClampNeg)).1 (fX7_pulp (w 0 0) (w 0 1) (w 0 2) (w 0 3) (w 0 4) mm (xs (nI (i + 1)).toNatClampNeg) (xs (nI (i + 2)).toNatClampNeg)).2 := by rw [hR.t4]; exact P_pulp hR.R hR.I hR.T (xs (nI (i + 1)).toNatClampNeg) (xs (nI (i + 2)).toNatClampNeg)
  have hcd := cd_pulp g (xs (nI (i + 1)).toNatClampNeg) (xs (nI (i + 2)).toNatClampNeg)
  have hv : IvC g := ivC_of hR.R hR.I hR.T
  have hLL := C.le
  refine lv_aload_n C.hx C.hb dL_law_564 rfl (lv_at hl 2 rfl) ?_
  refine lv_aload_n C.hx C.hb dL_law_565 rfl (lv_at hl 1 rfl) ?_
  refine lv_iload C.hx C.hb dL_law_566 (lv_at hl 0 rfl) ?_
  refine lv_iconst (v := 1) C.hx C.hb dL_law_568 (by decide) ?_
  refine lv_iadd C.hx C.hb dL_law_569 ?_
  refine q_val (v := nI (i + 1)) (nI_add i 1) ?_
  refine va_sld C.hx C.hb C.X C.bl (LA0_no C.bl) hS (vp_in_nI (by omega) (by have := C.le; omega)) dL_law_570 ?_
  refine lv_aload_n C.hx C.hb dL_law_571 rfl (lv_at hl 1 rfl) ?_
  refine lv_iload C.hx C.hb dL_law_572 (lv_at hl 0 rfl) ?_
  refine lv_iconst (v := 2) C.hx C.hb dL_law_574 (by decide) ?_
  refine lv_iadd C.hx C.hb dL_law_575 ?_
  refine q_val (v := nI (i + 2)) (nI_add i 2) ?_
  refine va_sld C.hx C.hb C.X C.bl (LA0_no C.bl) hS (vp_in_nI (by omega) (by have := C.le; omega)) dL_law_576 ?_
  refine lv_aload_n C.hx C.hb dL_law_577 rfl (lv_at hl 4 rfl) ?_
  refine l_callO (g2 := (fX6_pulp g (xs (nI (i + 1)).toNatClampNeg) (xs (nI (i + 2)).toNatClampNeg)).2.2) (v2 := (if (fX6_pulp g (xs (nI (i + 1)).toNatClampNeg) (xs (nI (i + 2)).toNatClampNeg)).1 = 0 then (fX6_pulp g (xs (nI (i + 1)).toNatClampNeg) (xs (nI (i + 2)).toNatClampNeg)).2.1.toInt64 else vo)) (kv := (k13 (fX6_pulp g (xs (nI (i + 1)).toNatClampNeg) (xs (nI (i + 2)).toNatClampNeg)).1)) (As := [.ref (ad 0 0), .int (xs (nI (i + 1)).toNatClampNeg), .int (xs (nI (i + 2)).toNatClampNeg), .ref o]) (rest := []) ⟨C.hx, C.hb, C.ml, C.own, C.ts⟩ (kL_pulp l D cy hI hl0 g o vo _ (xs (nI (i + 1)).toNatClampNeg) (xs (nI (i + 2)).toNatClampNeg) hv) (vx_cwSW 4 C.ts gL_law_L_pulp rfl rfl rfl (by decide +kernel) ⟨Nat.le_of_ble_eq_true rfl, Nat.le_of_ble_eq_true rfl⟩) hB hL hS rfl hl.1 (Nat.le_of_ble_eq_true rfl) dL_law_578 ⟨by refine Nat.le_trans (m := 400000) ?_ rc_c; show cells + _ ≤ 400000; omega, by refine Nat.le_trans (m := 4000000) ?_ rc_s; show slots + _ ≤ 4000000; omega⟩ (fun H locs hL hS => ?_)
  refine lv_istore (lv' := [(5, .int (k13 (fX6_pulp g (xs (nI (i + 1)).toNatClampNeg) (xs (nI (i + 2)).toNatClampNeg)).1)), (4, .int (nI i)), (0, .ref b), (1, .ref (ad 0 0)), (2, .ref mq), (3, .ref o)]) C.hx C.hb dL_law_581 hl (by decide) rfl (fun ls hl => ?_)
  refine lv_aload_n C.hx C.hb dL_law_583 rfl (lv_at hl 4 rfl) ?_
  refine lv_aload_n C.hx C.hb dL_law_584 rfl (lv_at hl 2 rfl) ?_
  refine lv_iload C.hx C.hb dL_law_585 (lv_at hl 1 rfl) ?_
  refine lv_iconst (v := 1) C.hx C.hb dL_law_587 (by decide) ?_
  refine lv_iadd C.hx C.hb dL_law_588 ?_
  refine q_val (v := nI (i + 1)) (nI_add i 1) ?_
  refine va_sld C.hx C.hb C.X C.bl (LA0_no C.bl) hS (vp_in_nI (by omega) (by have := C.le; omega)) dL_law_589 ?_
  refine lv_aload_n C.hx C.hb dL_law_590 rfl (lv_at hl 2 rfl) ?_
  refine lv_iload C.hx C.hb dL_law_591 (lv_at hl 1 rfl) ?_
  refine lv_iconst (v := 2) C.hx C.hb dL_law_593 (by decide) ?_
  refine lv_iadd C.hx C.hb dL_law_594 ?_
  refine q_val (v := nI (i + 2)) (nI_add i 2) ?_
  refine va_sld C.hx C.hb C.X C.bl (LA0_no C.bl) hS (vp_in_nI (by omega) (by have := C.le; omega)) dL_law_595 ?_
  refine l_callMi (v := (fX7_pulp (w 0 0) (w 0 1) (w 0 2) (w 0 3) (w 0 4) mm (xs (nI (i + 1)).toNatClampNeg) (xs (nI (i + 2)).toNatClampNeg)).1) (m2 := (fX7_pulp (w 0 0) (w 0 1) (w 0 2) (w 0 3) (w 0 4) mm (xs (nI (i + 1)).toNatClampNeg) (xs (nI (i + 2)).toNatClampNeg)).2) (S2 := SS) hmq (As := [.int (xs (nI (i + 1)).toNatClampNeg), .int (xs (nI (i + 2)).toNatClampNeg)]) (rest := []) ⟨C.hx, C.hb, C.ml, C.own, C.ts⟩ (mX7_pulp l D cy e0 mm SS _ (xs (nI (i + 1)).toNatClampNeg) (xs (nI (i + 2)).toNatClampNeg) hR.I hR.t4 hR.cap) (cwV 2 C.ts gL_law_X7_pulp rfl rfl rfl (by decide +kernel) ⟨Nat.le_of_ble_eq_true rfl, Nat.le_of_ble_eq_true rfl⟩) hB hL hS rfl hl.1 (Nat.le_of_ble_eq_true rfl) dL_law_596 ⟨by refine Nat.le_trans (m := 400000) ?_ rc_c; show cells + _ + _ ≤ 400000; omega, by refine Nat.le_trans (m := 4000000) ?_ rc_s; show slots + _ + _ ≤ 4000000; omega⟩ (fun H locs hL hS => ?_)
  refine lv_istore (lv' := [(6, .int (fX7_pulp (w 0 0) (w 0 1) (w 0 2) (w 0 3) (w 0 4) mm (xs (nI (i + 1)).toNatClampNeg) (xs (nI (i + 2)).toNatClampNeg)).1), (5, .int (k13 (fX6_pulp g (xs (nI (i + 1)).toNatClampNeg) (xs (nI (i + 2)).toNatClampNeg)).1)), (4, .int (nI i)), (0, .ref b), (1, .ref (ad 0 0)), (2, .ref mq), (3, .ref o)]) C.hx C.hb dL_law_599 hl (by decide) rfl (fun ls hl => ?_)
  refine lv_aload_n C.hx C.hb dL_law_601 rfl (lv_at hl 5 rfl) ?_
  refine l_callMi (v := (fX7_pulp (w 0 0) (w 0 1) (w 0 2) (w 0 3) (w 0 4) mm (xs (nI (i + 1)).toNatClampNeg) (xs (nI (i + 2)).toNatClampNeg)).2 0 20) (m2 := (fX7_pulp (w 0 0) (w 0 1) (w 0 2) (w 0 3) (w 0 4) mm (xs (nI (i + 1)).toNatClampNeg) (xs (nI (i + 2)).toNatClampNeg)).2) (S2 := SS) hmq (As := []) (rest := []) ⟨C.hx, C.hb, C.ml, C.own, C.ts⟩ (kX7_thrown l D cy e0 (fX7_pulp (w 0 0) (w 0 1) (w 0 2) (w 0 3) (w 0 4) mm (xs (nI (i + 1)).toNatClampNeg) (xs (nI (i + 2)).toNatClampNeg)).2 SS _) (cwV 0 C.ts gL_law_X7_thrown rfl rfl rfl (by decide +kernel) ⟨Nat.le_of_ble_eq_true rfl, Nat.le_of_ble_eq_true rfl⟩) hB hL hS rfl hl.1 (Nat.le_of_ble_eq_true rfl) dL_law_602 ⟨by refine Nat.le_trans (m := 400000) ?_ rc_c; show cells + _ + _ + _ ≤ 400000; omega, by refine Nat.le_trans (m := 4000000) ?_ rc_s; show slots + _ + _ + _ ≤ 4000000; omega⟩ (fun H locs hL hS => ?_)
  refine lv_iload C.hx C.hb dL_law_605 (lv_at hl 1 rfl) ?_
  refine lv_icmp_eq (tgt := 612) C.hx C.hb dL_law_607 (by decide) (fun _ => ?_) (fun c => absurd hP.1 c)
  have K : W p l e room_1 s m #[Value.ref b] below meth c H locs (cells + 3 + 1 + 0) (slots + 18 + 23 + 0) Q (F0 m 629 ls []) := by
    refine lv_goto (tgt := 2075) C.hx C.hb dL_law_629 (by decide) ?_
    refine W.widen (k := cells + 450) (n := slots + 6200) (by omega) (by omega) ?_
    exact kk _ _ _ w _ _ _ _ ls hL (RS.of hP rfl rfl rfl rfl hR.t4 hR.cap) hS hmq (lv_sub hl [2, 3, 4, 5, 6] rfl)
  refine lv_iload C.hx C.hb dL_law_612 (lv_at hl 1 rfl) ?_
  refine lv_if_ne (tgt := 629) C.hx C.hb dL_law_614 (by decide) (fun _ => K) (fun hz => ?_)
  have hc0 : (fX6_pulp g (xs (nI (i + 1)).toNatClampNeg) (xs (nI (i + 2)).toNatClampNeg)).1 = 0 := by
    rcases hcd with h | h | h
    · exact h
    · exact absurd (show (k13 (fX6_pulp g (xs (nI (i + 1)).toNatClampNeg) (xs (nI (i + 2)).toNatClampNeg)).1) = 0 from Classical.byContradiction (fun q => by first | exact hz q | exact q hz)) (by rw [h.1]; decide)
    · exact absurd (show (k13 (fX6_pulp g (xs (nI (i + 1)).toNatClampNeg) (xs (nI (i + 2)).toNatClampNeg)).1) = 0 from Classical.byContradiction (fun q => by first | exact hz q | exact q hz)) (by rw [h.1]; decide)
  refine lv_aload_n C.hx C.hb dL_law_617 rfl (lv_at hl 6 rfl) ?_
  refine lv_iconst (v := 0) C.hx C.hb dL_law_618 (by decide) ?_
  refine l_lald C.hx C.hb hB hL dL_law_619 ?_
  refine l_val (v := (fX7_pulp (w 0 0) (w 0 1) (w 0 2) (w 0 3) (w 0 4) mm (xs (nI (i + 1)).toNatClampNeg) (xs (nI (i + 2)).toNatClampNeg)).1.toInt64) (by rw [if_pos hc0]; exact congrArg Int32.toInt64 (hP.2.1 hc0)) ?_
  refine lv_iload C.hx C.hb dL_law_620 (lv_at hl 0 rfl) ?_
  refine lv_i2l C.hx C.hb dL_law_622 rfl ?_
  refine W.lcmp C.hx C.hb dL_law_623 ?_
  refine lv_if_eq (tgt := 629) C.hx C.hb dL_law_624 (by decide) (fun _ => K) (fun c => absurd (lcmp_self _) c)
set_option maxRecDepth 100000 in
set_option maxHeartbeats 4000000 in
theorem op_wash (C : LC p l s m c b L xs) (hI : cI ad) (hB : LWB D cy e0 s) (hL : LWS D cy ad o e0 s g vo bd w mm SS H) (hR : RS g mm w) (hS : va_S (LA0 s) s.heap H locs) (hmq : bd 0 0 = mq) (hi : i + 5 ≤ L) (hc : cells + 450 ≤ 400000) (hs : slots + 6200 ≤ 4000000) (hl : lv_has ls 9 [(4, .int (nI i)), (0, .ref b), (1, .ref (ad 0 0)), (2, .ref mq), (3, .ref o)])
    (kk : ∀ (g2 : Gd) (v2 : Int64) (bd2 w2 : Nat → Nat → Nat) (m2 : Md) (S2 : Int64) (H1 : Heap) (locs1 : List Loc) (ls1 : Array Slot), LWS D cy ad o e0 s g2 v2 bd2 w2 m2 S2 H1 → RS g2 m2 w2 → va_S (LA0 s) s.heap H1 locs1 → bd2 0 0 = mq → lv_has ls1 9 [(4, .int (nI i)), (0, .ref b), (1, .ref (ad 0 0)), (2, .ref mq), (3, .ref o)] → W p l e room_1 s m #[Value.ref b] below meth c H1 locs1 (cells + 450) (slots + 6200) Q (F0 m 2075 ls1 [])) :
    W p l e room_1 s m #[Value.ref b] below meth c H locs cells slots Q (F0 m 632 ls []) := by
  have hI0 := hI
  have hl0 := C.st
  have hP : Ok (w 0 0) (w 0 1) (w 0 2) (w 0 3) (k13 (fX6_wash g (xs (nI (i + 1)).toNatClampNeg) (xs (nI (i + 2)).toNatClampNeg) (if (xs (nI (i + 3)).toNatClampNeg) = 0 then (0 : Int32) else 1)).1) (fX6_wash g (xs (nI (i + 1)).toNatClampNeg) (xs (nI (i + 2)).toNatClampNeg) (if (xs (nI (i + 3)).toNatClampNeg) = 0 then (0 : Int32) else 1)).1 (fX6_wash g (xs (nI (i + 1)).toNatClampNeg) (xs (nI (i + 2)).toNatClampNeg) (if (xs (nI (i + 3)).toNatClampNeg) = 0 then (0 : Int32) else 1)).2.1 (fX6_wash g (xs (nI (i + 1)).toNatClampNeg) (xs (nI (i + 2)).toNatClampNeg) (if (xs (nI (i + 3)).toNatClampNeg) = 0 then (0 : Int32) else 1)).2.2 (fX7_wash (w 0 0) (w 0 1) (w 0 2) (w 0 3) (w 0 4) mm (xs (nI (i + 1)).toNatClampNeg) (xs (nI (i + 2)).toNatClampNeg) (if (xs (nI (i + 3)).toNatClampNeg) = 0 then (0 : Int32) else 1)).1 (fX7_wash (w 0 0) (w 0 1) (w 0 2) (w 0 3) (w 0 4) mm (xs (nI (i + 1)).toNatClampNeg) (xs (nI (i + 2)).toNatClampNeg) (if (xs (nI (i + 3)).toNatClampNeg) = 0 then (0 : Int32) else 1)).2 := by rw [hR.t4]; exact P_wash (T := 0) hR.R hR.I hR.T (xs (nI (i + 1)).toNatClampNeg) (xs (nI (i + 2)).toNatClampNeg) (if (xs (nI (i + 3)).toNatClampNeg) = 0 then (0 : Int32) else 1)
  have hcd := cd_wash g (xs (nI (i + 1)).toNatClampNeg) (xs (nI (i + 2)).toNatClampNeg) (if (xs (nI (i + 3)).toNatClampNeg) = 0 then (0 : Int32) else 1)
  have hv : IvC g := ivC_of hR.R hR.I hR.T
  have hLL := C.le
  refine lv_aload_n C.hx C.hb dL_law_632 rfl (lv_at hl 2 rfl) ?_
  refine lv_aload_n C.hx C.hb dL_law_633 rfl (lv_at hl 1 rfl) ?_
  refine lv_iload C.hx C.hb dL_law_634 (lv_at hl 0 rfl) ?_
  refine lv_iconst (v := 1) C.hx C.hb dL_law_636 (by decide) ?_
  refine lv_iadd C.hx C.hb dL_law_637 ?_
  refine q_val (v := nI (i + 1)) (nI_add i 1) ?_
  refine va_sld C.hx C.hb C.X C.bl (LA0_no C.bl) hS (vp_in_nI (by omega) (by have := C.le; omega)) dL_law_638 ?_
  refine lv_aload_n C.hx C.hb dL_law_639 rfl (lv_at hl 1 rfl) ?_
  refine lv_iload C.hx C.hb dL_law_640 (lv_at hl 0 rfl) ?_
  refine lv_iconst (v := 2) C.hx C.hb dL_law_642 (by decide) ?_
  refine lv_iadd C.hx C.hb dL_law_643 ?_
  refine q_val (v := nI (i + 2)) (nI_add i 2) ?_
  refine va_sld C.hx C.hb C.X C.bl (LA0_no C.bl) hS (vp_in_nI (by omega) (by have := C.le; omega)) dL_law_644 ?_
  refine lv_aload_n C.hx C.hb dL_law_645 rfl (lv_at hl 1 rfl) ?_
  refine lv_iload C.hx C.hb dL_law_646 (lv_at hl 0 rfl) ?_
  refine lv_iconst (v := 3) C.hx C.hb dL_law_648 (by decide) ?_
  refine lv_iadd C.hx C.hb dL_law_649 ?_
  refine q_val (v := nI (i + 3)) (nI_add i 3) ?_
  refine va_sld C.hx C.hb C.X C.bl (LA0_no C.bl) hS (vp_in_nI (by omega) (by have := C.le; omega)) dL_law_650 ?_
  refine l_bool C.hx C.hb dL_law_651 dL_law_654 dL_law_655 dL_law_658 ?_
  refine lv_aload_n C.hx C.hb dL_law_659 rfl (lv_at hl 4 rfl) ?_
  refine l_callO (g2 := (fX6_wash g (xs (nI (i + 1)).toNatClampNeg) (xs (nI (i + 2)).toNatClampNeg) (if (xs (nI (i + 3)).toNatClampNeg) = 0 then (0 : Int32) else 1)).2.2) (v2 := (if (fX6_wash g (xs (nI (i + 1)).toNatClampNeg) (xs (nI (i + 2)).toNatClampNeg) (if (xs (nI (i + 3)).toNatClampNeg) = 0 then (0 : Int32) else 1)).1 = 0 then (fX6_wash g (xs (nI (i + 1)).toNatClampNeg) (xs (nI (i + 2)).toNatClampNeg) (if (xs (nI (i + 3)).toNatClampNeg) = 0 then (0 : Int32) else 1)).2.1.toInt64 else vo)) (kv := (k13 (fX6_wash g (xs (nI (i + 1)).toNatClampNeg) (xs (nI (i + 2)).toNatClampNeg) (if (xs (nI (i + 3)).toNatClampNeg) = 0 then (0 : Int32) else 1)).1)) (As := [.ref (ad 0 0), .int (xs (nI (i + 1)).toNatClampNeg), .int (xs (nI (i + 2)).toNatClampNeg), .int (if (xs (nI (i + 3)).toNatClampNeg) = 0 then (0 : Int32) else 1), .ref o]) (rest := []) ⟨C.hx, C.hb, C.ml, C.own, C.ts⟩ (kL_wash l D cy hI hl0 g o vo _ (xs (nI (i + 1)).toNatClampNeg) (xs (nI (i + 2)).toNatClampNeg) (if (xs (nI (i + 3)).toNatClampNeg) = 0 then (0 : Int32) else 1) hv) (vx_cwSW 5 C.ts gL_law_L_wash rfl rfl rfl (by decide +kernel) ⟨Nat.le_of_ble_eq_true rfl, Nat.le_of_ble_eq_true rfl⟩) hB hL hS rfl hl.1 (Nat.le_of_ble_eq_true rfl) dL_law_660 ⟨by refine Nat.le_trans (m := 400000) ?_ rc_c; show cells + _ ≤ 400000; omega, by refine Nat.le_trans (m := 4000000) ?_ rc_s; show slots + _ ≤ 4000000; omega⟩ (fun H locs hL hS => ?_)
  refine lv_istore (lv' := [(5, .int (k13 (fX6_wash g (xs (nI (i + 1)).toNatClampNeg) (xs (nI (i + 2)).toNatClampNeg) (if (xs (nI (i + 3)).toNatClampNeg) = 0 then (0 : Int32) else 1)).1)), (4, .int (nI i)), (0, .ref b), (1, .ref (ad 0 0)), (2, .ref mq), (3, .ref o)]) C.hx C.hb dL_law_663 hl (by decide) rfl (fun ls hl => ?_)
  refine lv_aload_n C.hx C.hb dL_law_665 rfl (lv_at hl 4 rfl) ?_
  refine lv_aload_n C.hx C.hb dL_law_666 rfl (lv_at hl 2 rfl) ?_
  refine lv_iload C.hx C.hb dL_law_667 (lv_at hl 1 rfl) ?_
  refine lv_iconst (v := 1) C.hx C.hb dL_law_669 (by decide) ?_
  refine lv_iadd C.hx C.hb dL_law_670 ?_
  refine q_val (v := nI (i + 1)) (nI_add i 1) ?_
  refine va_sld C.hx C.hb C.X C.bl (LA0_no C.bl) hS (vp_in_nI (by omega) (by have := C.le; omega)) dL_law_671 ?_
  refine lv_aload_n C.hx C.hb dL_law_672 rfl (lv_at hl 2 rfl) ?_
  refine lv_iload C.hx C.hb dL_law_673 (lv_at hl 1 rfl) ?_
  refine lv_iconst (v := 2) C.hx C.hb dL_law_675 (by decide) ?_
  refine lv_iadd C.hx C.hb dL_law_676 ?_
  refine q_val (v := nI (i + 2)) (nI_add i 2) ?_
  refine va_sld C.hx C.hb C.X C.bl (LA0_no C.bl) hS (vp_in_nI (by omega) (by have := C.le; omega)) dL_law_677 ?_
  refine lv_aload_n C.hx C.hb dL_law_678 rfl (lv_at hl 2 rfl) ?_
  refine lv_iload C.hx C.hb dL_law_679 (lv_at hl 1 rfl) ?_
  refine lv_iconst (v := 3) C.hx C.hb dL_law_681 (by decide) ?_
  refine lv_iadd C.hx C.hb dL_law_682 ?_
  refine q_val (v := nI (i + 3)) (nI_add i 3) ?_
  refine va_sld C.hx C.hb C.X C.bl (LA0_no C.bl) hS (vp_in_nI (by omega) (by have := C.le; omega)) dL_law_683 ?_
  refine l_bool C.hx C.hb dL_law_684 dL_law_687 dL_law_688 dL_law_691 ?_
  refine l_callMi (v := (fX7_wash (w 0 0) (w 0 1) (w 0 2) (w 0 3) (w 0 4) mm (xs (nI (i + 1)).toNatClampNeg) (xs (nI (i + 2)).toNatClampNeg) (if (xs (nI (i + 3)).toNatClampNeg) = 0 then (0 : Int32) else 1)).1) (m2 := (fX7_wash (w 0 0) (w 0 1) (w 0 2) (w 0 3) (w 0 4) mm (xs (nI (i + 1)).toNatClampNeg) (xs (nI (i + 2)).toNatClampNeg) (if (xs (nI (i + 3)).toNatClampNeg) = 0 then (0 : Int32) else 1)).2) (S2 := SS) hmq (As := [.int (xs (nI (i + 1)).toNatClampNeg), .int (xs (nI (i + 2)).toNatClampNeg), .int (if (xs (nI (i + 3)).toNatClampNeg) = 0 then (0 : Int32) else 1)]) (rest := []) ⟨C.hx, C.hb, C.ml, C.own, C.ts⟩ (mX7_wash l D cy e0 mm SS _ (xs (nI (i + 1)).toNatClampNeg) (xs (nI (i + 2)).toNatClampNeg) (if (xs (nI (i + 3)).toNatClampNeg) = 0 then (0 : Int32) else 1) hR.I hR.t4 hR.cap) (cwV 3 C.ts gL_law_X7_wash rfl rfl rfl (by decide +kernel) ⟨Nat.le_of_ble_eq_true rfl, Nat.le_of_ble_eq_true rfl⟩) hB hL hS rfl hl.1 (Nat.le_of_ble_eq_true rfl) dL_law_692 ⟨by refine Nat.le_trans (m := 400000) ?_ rc_c; show cells + _ + _ ≤ 400000; omega, by refine Nat.le_trans (m := 4000000) ?_ rc_s; show slots + _ + _ ≤ 4000000; omega⟩ (fun H locs hL hS => ?_)
  refine lv_istore (lv' := [(6, .int (fX7_wash (w 0 0) (w 0 1) (w 0 2) (w 0 3) (w 0 4) mm (xs (nI (i + 1)).toNatClampNeg) (xs (nI (i + 2)).toNatClampNeg) (if (xs (nI (i + 3)).toNatClampNeg) = 0 then (0 : Int32) else 1)).1), (5, .int (k13 (fX6_wash g (xs (nI (i + 1)).toNatClampNeg) (xs (nI (i + 2)).toNatClampNeg) (if (xs (nI (i + 3)).toNatClampNeg) = 0 then (0 : Int32) else 1)).1)), (4, .int (nI i)), (0, .ref b), (1, .ref (ad 0 0)), (2, .ref mq), (3, .ref o)]) C.hx C.hb dL_law_695 hl (by decide) rfl (fun ls hl => ?_)
  refine lv_aload_n C.hx C.hb dL_law_697 rfl (lv_at hl 5 rfl) ?_
  refine l_callMi (v := (fX7_wash (w 0 0) (w 0 1) (w 0 2) (w 0 3) (w 0 4) mm (xs (nI (i + 1)).toNatClampNeg) (xs (nI (i + 2)).toNatClampNeg) (if (xs (nI (i + 3)).toNatClampNeg) = 0 then (0 : Int32) else 1)).2 0 20) (m2 := (fX7_wash (w 0 0) (w 0 1) (w 0 2) (w 0 3) (w 0 4) mm (xs (nI (i + 1)).toNatClampNeg) (xs (nI (i + 2)).toNatClampNeg) (if (xs (nI (i + 3)).toNatClampNeg) = 0 then (0 : Int32) else 1)).2) (S2 := SS) hmq (As := []) (rest := []) ⟨C.hx, C.hb, C.ml, C.own, C.ts⟩ (kX7_thrown l D cy e0 (fX7_wash (w 0 0) (w 0 1) (w 0 2) (w 0 3) (w 0 4) mm (xs (nI (i + 1)).toNatClampNeg) (xs (nI (i + 2)).toNatClampNeg) (if (xs (nI (i + 3)).toNatClampNeg) = 0 then (0 : Int32) else 1)).2 SS _) (cwV 0 C.ts gL_law_X7_thrown rfl rfl rfl (by decide +kernel) ⟨Nat.le_of_ble_eq_true rfl, Nat.le_of_ble_eq_true rfl⟩) hB hL hS rfl hl.1 (Nat.le_of_ble_eq_true rfl) dL_law_698 ⟨by refine Nat.le_trans (m := 400000) ?_ rc_c; show cells + _ + _ + _ ≤ 400000; omega, by refine Nat.le_trans (m := 4000000) ?_ rc_s; show slots + _ + _ + _ ≤ 4000000; omega⟩ (fun H locs hL hS => ?_)
  refine lv_iload C.hx C.hb dL_law_701 (lv_at hl 1 rfl) ?_
  refine lv_icmp_eq (tgt := 708) C.hx C.hb dL_law_703 (by decide) (fun _ => ?_) (fun c => absurd hP.1 c)
  have K : W p l e room_1 s m #[Value.ref b] below meth c H locs (cells + 3 + 0 + 0) (slots + 18 + 0 + 0) Q (F0 m 725 ls []) := by
    refine lv_goto (tgt := 2075) C.hx C.hb dL_law_725 (by decide) ?_
    refine W.widen (k := cells + 450) (n := slots + 6200) (by omega) (by omega) ?_
    exact kk _ _ _ w _ _ _ _ ls hL (RS.of hP rfl rfl rfl rfl hR.t4 hR.cap) hS hmq (lv_sub hl [2, 3, 4, 5, 6] rfl)
  refine lv_iload C.hx C.hb dL_law_708 (lv_at hl 1 rfl) ?_
  refine lv_if_ne (tgt := 725) C.hx C.hb dL_law_710 (by decide) (fun _ => K) (fun hz => ?_)
  have hc0 : (fX6_wash g (xs (nI (i + 1)).toNatClampNeg) (xs (nI (i + 2)).toNatClampNeg) (if (xs (nI (i + 3)).toNatClampNeg) = 0 then (0 : Int32) else 1)).1 = 0 := by
    rcases hcd with h | h | h
    · exact h
    · exact absurd (show (k13 (fX6_wash g (xs (nI (i + 1)).toNatClampNeg) (xs (nI (i + 2)).toNatClampNeg) (if (xs (nI (i + 3)).toNatClampNeg) = 0 then (0 : Int32) else 1)).1) = 0 from Classical.byContradiction (fun q => by first | exact hz q | exact q hz)) (by rw [h.1]; decide)
    · exact absurd (show (k13 (fX6_wash g (xs (nI (i + 1)).toNatClampNeg) (xs (nI (i + 2)).toNatClampNeg) (if (xs (nI (i + 3)).toNatClampNeg) = 0 then (0 : Int32) else 1)).1) = 0 from Classical.byContradiction (fun q => by first | exact hz q | exact q hz)) (by rw [h.1]; decide)
  refine lv_aload_n C.hx C.hb dL_law_713 rfl (lv_at hl 6 rfl) ?_
  refine lv_iconst (v := 0) C.hx C.hb dL_law_714 (by decide) ?_
  refine l_lald C.hx C.hb hB hL dL_law_715 ?_
  refine l_val (v := (fX7_wash (w 0 0) (w 0 1) (w 0 2) (w 0 3) (w 0 4) mm (xs (nI (i + 1)).toNatClampNeg) (xs (nI (i + 2)).toNatClampNeg) (if (xs (nI (i + 3)).toNatClampNeg) = 0 then (0 : Int32) else 1)).1.toInt64) (by rw [if_pos hc0]; exact congrArg Int32.toInt64 (hP.2.1 hc0)) ?_
  refine lv_iload C.hx C.hb dL_law_716 (lv_at hl 0 rfl) ?_
  refine lv_i2l C.hx C.hb dL_law_718 rfl ?_
  refine W.lcmp C.hx C.hb dL_law_719 ?_
  refine lv_if_eq (tgt := 725) C.hx C.hb dL_law_720 (by decide) (fun _ => K) (fun c => absurd (lcmp_self _) c)
set_option maxRecDepth 100000 in
set_option maxHeartbeats 4000000 in
theorem op_whole (C : LC p l s m c b L xs) (hI : cI ad) (hB : LWB D cy e0 s) (hL : LWS D cy ad o e0 s g vo bd w mm SS H) (hR : RS g mm w) (hS : va_S (LA0 s) s.heap H locs) (hmq : bd 0 0 = mq) (hi : i + 5 ≤ L) (hc : cells + 450 ≤ 400000) (hs : slots + 6200 ≤ 4000000) (hl : lv_has ls 9 [(4, .int (nI i)), (0, .ref b), (1, .ref (ad 0 0)), (2, .ref mq), (3, .ref o)])
    (kk : ∀ (g2 : Gd) (v2 : Int64) (bd2 w2 : Nat → Nat → Nat) (m2 : Md) (S2 : Int64) (H1 : Heap) (locs1 : List Loc) (ls1 : Array Slot), LWS D cy ad o e0 s g2 v2 bd2 w2 m2 S2 H1 → RS g2 m2 w2 → va_S (LA0 s) s.heap H1 locs1 → bd2 0 0 = mq → lv_has ls1 9 [(4, .int (nI i)), (0, .ref b), (1, .ref (ad 0 0)), (2, .ref mq), (3, .ref o)] → W p l e room_1 s m #[Value.ref b] below meth c H1 locs1 (cells + 450) (slots + 6200) Q (F0 m 2075 ls1 [])) :
    W p l e room_1 s m #[Value.ref b] below meth c H locs cells slots Q (F0 m 728 ls []) := by
  have hI0 := hI
  have hl0 := C.st
  have hP : Ok (w 0 0) (w 0 1) (w 0 2) (w 0 3) (k13 (fX6_whole g (xs (nI (i + 1)).toNatClampNeg) (xs (nI (i + 2)).toNatClampNeg)).1) (fX6_whole g (xs (nI (i + 1)).toNatClampNeg) (xs (nI (i + 2)).toNatClampNeg)).1 (fX6_whole g (xs (nI (i + 1)).toNatClampNeg) (xs (nI (i + 2)).toNatClampNeg)).2.1 (fX6_whole g (xs (nI (i + 1)).toNatClampNeg) (xs (nI (i + 2)).toNatClampNeg)).2.2 (fX7_whole (w 0 0) (w 0 1) (w 0 2) (w 0 3) (w 0 4) mm (xs (nI (i + 1)).toNatClampNeg) (xs (nI (i + 2)).toNatClampNeg)).1 (fX7_whole (w 0 0) (w 0 1) (w 0 2) (w 0 3) (w 0 4) mm (xs (nI (i + 1)).toNatClampNeg) (xs (nI (i + 2)).toNatClampNeg)).2 := by rw [hR.t4]; exact P_whole hR.R hR.I hR.T (xs (nI (i + 1)).toNatClampNeg) (xs (nI (i + 2)).toNatClampNeg)
  have hcd := cd_whole g (xs (nI (i + 1)).toNatClampNeg) (xs (nI (i + 2)).toNatClampNeg)
  have hv : IvC g := ivC_of hR.R hR.I hR.T
  have hLL := C.le
  refine lv_aload_n C.hx C.hb dL_law_728 rfl (lv_at hl 2 rfl) ?_
  refine lv_aload_n C.hx C.hb dL_law_729 rfl (lv_at hl 1 rfl) ?_
  refine lv_iload C.hx C.hb dL_law_730 (lv_at hl 0 rfl) ?_
  refine lv_iconst (v := 1) C.hx C.hb dL_law_732 (by decide) ?_
  refine lv_iadd C.hx C.hb dL_law_733 ?_
  refine q_val (v := nI (i + 1)) (nI_add i 1) ?_
  refine va_sld C.hx C.hb C.X C.bl (LA0_no C.bl) hS (vp_in_nI (by omega) (by have := C.le; omega)) dL_law_734 ?_
  refine lv_aload_n C.hx C.hb dL_law_735 rfl (lv_at hl 1 rfl) ?_
  refine lv_iload C.hx C.hb dL_law_736 (lv_at hl 0 rfl) ?_
  refine lv_iconst (v := 2) C.hx C.hb dL_law_738 (by decide) ?_
  refine lv_iadd C.hx C.hb dL_law_739 ?_
  refine q_val (v := nI (i + 2)) (nI_add i 2) ?_
  refine va_sld C.hx C.hb C.X C.bl (LA0_no C.bl) hS (vp_in_nI (by omega) (by have := C.le; omega)) dL_law_740 ?_
  refine lv_aload_n C.hx C.hb dL_law_741 rfl (lv_at hl 4 rfl) ?_
  refine l_callO (g2 := (fX6_whole g (xs (nI (i + 1)).toNatClampNeg) (xs (nI (i + 2)).toNatClampNeg)).2.2) (v2 := (if (fX6_whole g (xs (nI (i + 1)).toNatClampNeg) (xs (nI (i + 2)).toNatClampNeg)).1 = 0 then (fX6_whole g (xs (nI (i + 1)).toNatClampNeg) (xs (nI (i + 2)).toNatClampNeg)).2.1.toInt64 else vo)) (kv := (k13 (fX6_whole g (xs (nI (i + 1)).toNatClampNeg) (xs (nI (i + 2)).toNatClampNeg)).1)) (As := [.ref (ad 0 0), .int (xs (nI (i + 1)).toNatClampNeg), .int (xs (nI (i + 2)).toNatClampNeg), .ref o]) (rest := []) ⟨C.hx, C.hb, C.ml, C.own, C.ts⟩ (kL_whole l D cy hI hl0 g o vo _ (xs (nI (i + 1)).toNatClampNeg) (xs (nI (i + 2)).toNatClampNeg) hv) (vx_cwSW 4 C.ts gL_law_L_whole rfl rfl rfl (by decide +kernel) ⟨Nat.le_of_ble_eq_true rfl, Nat.le_of_ble_eq_true rfl⟩) hB hL hS rfl hl.1 (Nat.le_of_ble_eq_true rfl) dL_law_742 ⟨by refine Nat.le_trans (m := 400000) ?_ rc_c; show cells + _ ≤ 400000; omega, by refine Nat.le_trans (m := 4000000) ?_ rc_s; show slots + _ ≤ 4000000; omega⟩ (fun H locs hL hS => ?_)
  refine lv_istore (lv' := [(5, .int (k13 (fX6_whole g (xs (nI (i + 1)).toNatClampNeg) (xs (nI (i + 2)).toNatClampNeg)).1)), (4, .int (nI i)), (0, .ref b), (1, .ref (ad 0 0)), (2, .ref mq), (3, .ref o)]) C.hx C.hb dL_law_745 hl (by decide) rfl (fun ls hl => ?_)
  refine lv_aload_n C.hx C.hb dL_law_747 rfl (lv_at hl 4 rfl) ?_
  refine lv_aload_n C.hx C.hb dL_law_748 rfl (lv_at hl 2 rfl) ?_
  refine lv_iload C.hx C.hb dL_law_749 (lv_at hl 1 rfl) ?_
  refine lv_iconst (v := 1) C.hx C.hb dL_law_751 (by decide) ?_
  refine lv_iadd C.hx C.hb dL_law_752 ?_
  refine q_val (v := nI (i + 1)) (nI_add i 1) ?_
  refine va_sld C.hx C.hb C.X C.bl (LA0_no C.bl) hS (vp_in_nI (by omega) (by have := C.le; omega)) dL_law_753 ?_
  refine lv_aload_n C.hx C.hb dL_law_754 rfl (lv_at hl 2 rfl) ?_
  refine lv_iload C.hx C.hb dL_law_755 (lv_at hl 1 rfl) ?_
  refine lv_iconst (v := 2) C.hx C.hb dL_law_757 (by decide) ?_
  refine lv_iadd C.hx C.hb dL_law_758 ?_
  refine q_val (v := nI (i + 2)) (nI_add i 2) ?_
  refine va_sld C.hx C.hb C.X C.bl (LA0_no C.bl) hS (vp_in_nI (by omega) (by have := C.le; omega)) dL_law_759 ?_
  refine l_callMi (v := (fX7_whole (w 0 0) (w 0 1) (w 0 2) (w 0 3) (w 0 4) mm (xs (nI (i + 1)).toNatClampNeg) (xs (nI (i + 2)).toNatClampNeg)).1) (m2 := (fX7_whole (w 0 0) (w 0 1) (w 0 2) (w 0 3) (w 0 4) mm (xs (nI (i + 1)).toNatClampNeg) (xs (nI (i + 2)).toNatClampNeg)).2) (S2 := SS) hmq (As := [.int (xs (nI (i + 1)).toNatClampNeg), .int (xs (nI (i + 2)).toNatClampNeg)]) (rest := []) ⟨C.hx, C.hb, C.ml, C.own, C.ts⟩ (mX7_whole l D cy e0 mm SS _ (xs (nI (i + 1)).toNatClampNeg) (xs (nI (i + 2)).toNatClampNeg) hR.I hR.t4 hR.cap) (cwV 2 C.ts gL_law_X7_whole rfl rfl rfl (by decide +kernel) ⟨Nat.le_of_ble_eq_true rfl, Nat.le_of_ble_eq_true rfl⟩) hB hL hS rfl hl.1 (Nat.le_of_ble_eq_true rfl) dL_law_760 ⟨by refine Nat.le_trans (m := 400000) ?_ rc_c; show cells + _ + _ ≤ 400000; omega, by refine Nat.le_trans (m := 4000000) ?_ rc_s; show slots + _ + _ ≤ 4000000; omega⟩ (fun H locs hL hS => ?_)
  refine lv_istore (lv' := [(6, .int (fX7_whole (w 0 0) (w 0 1) (w 0 2) (w 0 3) (w 0 4) mm (xs (nI (i + 1)).toNatClampNeg) (xs (nI (i + 2)).toNatClampNeg)).1), (5, .int (k13 (fX6_whole g (xs (nI (i + 1)).toNatClampNeg) (xs (nI (i + 2)).toNatClampNeg)).1)), (4, .int (nI i)), (0, .ref b), (1, .ref (ad 0 0)), (2, .ref mq), (3, .ref o)]) C.hx C.hb dL_law_763 hl (by decide) rfl (fun ls hl => ?_)
  refine lv_aload_n C.hx C.hb dL_law_765 rfl (lv_at hl 5 rfl) ?_
  refine l_callMi (v := (fX7_whole (w 0 0) (w 0 1) (w 0 2) (w 0 3) (w 0 4) mm (xs (nI (i + 1)).toNatClampNeg) (xs (nI (i + 2)).toNatClampNeg)).2 0 20) (m2 := (fX7_whole (w 0 0) (w 0 1) (w 0 2) (w 0 3) (w 0 4) mm (xs (nI (i + 1)).toNatClampNeg) (xs (nI (i + 2)).toNatClampNeg)).2) (S2 := SS) hmq (As := []) (rest := []) ⟨C.hx, C.hb, C.ml, C.own, C.ts⟩ (kX7_thrown l D cy e0 (fX7_whole (w 0 0) (w 0 1) (w 0 2) (w 0 3) (w 0 4) mm (xs (nI (i + 1)).toNatClampNeg) (xs (nI (i + 2)).toNatClampNeg)).2 SS _) (cwV 0 C.ts gL_law_X7_thrown rfl rfl rfl (by decide +kernel) ⟨Nat.le_of_ble_eq_true rfl, Nat.le_of_ble_eq_true rfl⟩) hB hL hS rfl hl.1 (Nat.le_of_ble_eq_true rfl) dL_law_766 ⟨by refine Nat.le_trans (m := 400000) ?_ rc_c; show cells + _ + _ + _ ≤ 400000; omega, by refine Nat.le_trans (m := 4000000) ?_ rc_s; show slots + _ + _ + _ ≤ 4000000; omega⟩ (fun H locs hL hS => ?_)
  refine lv_iload C.hx C.hb dL_law_769 (lv_at hl 1 rfl) ?_
  refine lv_icmp_eq (tgt := 776) C.hx C.hb dL_law_771 (by decide) (fun _ => ?_) (fun c => absurd hP.1 c)
  have K : W p l e room_1 s m #[Value.ref b] below meth c H locs (cells + 3 + 1 + 0) (slots + 18 + 23 + 0) Q (F0 m 793 ls []) := by
    refine lv_goto (tgt := 2075) C.hx C.hb dL_law_793 (by decide) ?_
    refine W.widen (k := cells + 450) (n := slots + 6200) (by omega) (by omega) ?_
    exact kk _ _ _ w _ _ _ _ ls hL (RS.of hP rfl rfl rfl rfl hR.t4 hR.cap) hS hmq (lv_sub hl [2, 3, 4, 5, 6] rfl)
  refine lv_iload C.hx C.hb dL_law_776 (lv_at hl 1 rfl) ?_
  refine lv_if_ne (tgt := 793) C.hx C.hb dL_law_778 (by decide) (fun _ => K) (fun hz => ?_)
  have hc0 : (fX6_whole g (xs (nI (i + 1)).toNatClampNeg) (xs (nI (i + 2)).toNatClampNeg)).1 = 0 := by
    rcases hcd with h | h | h
    · exact h
    · exact absurd (show (k13 (fX6_whole g (xs (nI (i + 1)).toNatClampNeg) (xs (nI (i + 2)).toNatClampNeg)).1) = 0 from Classical.byContradiction (fun q => by first | exact hz q | exact q hz)) (by rw [h.1]; decide)
    · exact absurd (show (k13 (fX6_whole g (xs (nI (i + 1)).toNatClampNeg) (xs (nI (i + 2)).toNatClampNeg)).1) = 0 from Classical.byContradiction (fun q => by first | exact hz q | exact q hz)) (by rw [h.1]; decide)
  refine lv_aload_n C.hx C.hb dL_law_781 rfl (lv_at hl 6 rfl) ?_
  refine lv_iconst (v := 0) C.hx C.hb dL_law_782 (by decide) ?_
  refine l_lald C.hx C.hb hB hL dL_law_783 ?_
  refine l_val (v := (fX7_whole (w 0 0) (w 0 1) (w 0 2) (w 0 3) (w 0 4) mm (xs (nI (i + 1)).toNatClampNeg) (xs (nI (i + 2)).toNatClampNeg)).1.toInt64) (by rw [if_pos hc0]; exact congrArg Int32.toInt64 (hP.2.1 hc0)) ?_
  refine lv_iload C.hx C.hb dL_law_784 (lv_at hl 0 rfl) ?_
  refine lv_i2l C.hx C.hb dL_law_786 rfl ?_
  refine W.lcmp C.hx C.hb dL_law_787 ?_
  refine lv_if_eq (tgt := 793) C.hx C.hb dL_law_788 (by decide) (fun _ => K) (fun c => absurd (lcmp_self _) c)
set_option maxRecDepth 100000 in
set_option maxHeartbeats 4000000 in
theorem op_turn (C : LC p l s m c b L xs) (hI : cI ad) (hB : LWB D cy e0 s) (hL : LWS D cy ad o e0 s g vo bd w mm SS H) (hR : RS g mm w) (hS : va_S (LA0 s) s.heap H locs) (hmq : bd 0 0 = mq) (hi : i + 5 ≤ L) (hc : cells + 450 ≤ 400000) (hs : slots + 6200 ≤ 4000000) (hl : lv_has ls 9 [(4, .int (nI i)), (0, .ref b), (1, .ref (ad 0 0)), (2, .ref mq), (3, .ref o)])
    (kk : ∀ (g2 : Gd) (v2 : Int64) (bd2 w2 : Nat → Nat → Nat) (m2 : Md) (S2 : Int64) (H1 : Heap) (locs1 : List Loc) (ls1 : Array Slot), LWS D cy ad o e0 s g2 v2 bd2 w2 m2 S2 H1 → RS g2 m2 w2 → va_S (LA0 s) s.heap H1 locs1 → bd2 0 0 = mq → lv_has ls1 9 [(4, .int (nI i)), (0, .ref b), (1, .ref (ad 0 0)), (2, .ref mq), (3, .ref o)] → W p l e room_1 s m #[Value.ref b] below meth c H1 locs1 (cells + 450) (slots + 6200) Q (F0 m 2075 ls1 [])) :
    W p l e room_1 s m #[Value.ref b] below meth c H locs cells slots Q (F0 m 796 ls []) := by
  have hI0 := hI
  have hl0 := C.st
  have hP : Ok (w 0 0) (w 0 1) (w 0 2) (w 0 3) (k13 (fX6_turn g (xs (nI (i + 1)).toNatClampNeg)).1) (fX6_turn g (xs (nI (i + 1)).toNatClampNeg)).1 (fX6_turn g (xs (nI (i + 1)).toNatClampNeg)).2.1 (fX6_turn g (xs (nI (i + 1)).toNatClampNeg)).2.2 (fX7_turn (w 0 0) (w 0 1) (w 0 2) (w 0 3) (w 0 4) mm (xs (nI (i + 1)).toNatClampNeg)).1 (fX7_turn (w 0 0) (w 0 1) (w 0 2) (w 0 3) (w 0 4) mm (xs (nI (i + 1)).toNatClampNeg)).2 := by rw [hR.t4]; exact P_turn (T := 0) hR.R hR.I hR.T (xs (nI (i + 1)).toNatClampNeg)
  have hcd := cd_turn g (xs (nI (i + 1)).toNatClampNeg)
  have hv : IvC g := ivC_of hR.R hR.I hR.T
  have hLL := C.le
  refine lv_aload_n C.hx C.hb dL_law_796 rfl (lv_at hl 2 rfl) ?_
  refine lv_aload_n C.hx C.hb dL_law_797 rfl (lv_at hl 1 rfl) ?_
  refine lv_iload C.hx C.hb dL_law_798 (lv_at hl 0 rfl) ?_
  refine lv_iconst (v := 1) C.hx C.hb dL_law_800 (by decide) ?_
  refine lv_iadd C.hx C.hb dL_law_801 ?_
  refine q_val (v := nI (i + 1)) (nI_add i 1) ?_
  refine va_sld C.hx C.hb C.X C.bl (LA0_no C.bl) hS (vp_in_nI (by omega) (by have := C.le; omega)) dL_law_802 ?_
  refine lv_aload_n C.hx C.hb dL_law_803 rfl (lv_at hl 4 rfl) ?_
  refine l_callO (g2 := (fX6_turn g (xs (nI (i + 1)).toNatClampNeg)).2.2) (v2 := (if (fX6_turn g (xs (nI (i + 1)).toNatClampNeg)).1 = 0 then (fX6_turn g (xs (nI (i + 1)).toNatClampNeg)).2.1.toInt64 else vo)) (kv := (k13 (fX6_turn g (xs (nI (i + 1)).toNatClampNeg)).1)) (As := [.ref (ad 0 0), .int (xs (nI (i + 1)).toNatClampNeg), .ref o]) (rest := []) ⟨C.hx, C.hb, C.ml, C.own, C.ts⟩ (kL_turn l D cy hI hl0 g o vo _ (xs (nI (i + 1)).toNatClampNeg) hv) (vx_cwSW 3 C.ts gL_law_L_turn rfl rfl rfl (by decide +kernel) ⟨Nat.le_of_ble_eq_true rfl, Nat.le_of_ble_eq_true rfl⟩) hB hL hS rfl hl.1 (Nat.le_of_ble_eq_true rfl) dL_law_804 ⟨by refine Nat.le_trans (m := 400000) ?_ rc_c; show cells + _ ≤ 400000; omega, by refine Nat.le_trans (m := 4000000) ?_ rc_s; show slots + _ ≤ 4000000; omega⟩ (fun H locs hL hS => ?_)
  refine lv_istore (lv' := [(5, .int (k13 (fX6_turn g (xs (nI (i + 1)).toNatClampNeg)).1)), (4, .int (nI i)), (0, .ref b), (1, .ref (ad 0 0)), (2, .ref mq), (3, .ref o)]) C.hx C.hb dL_law_807 hl (by decide) rfl (fun ls hl => ?_)
  refine lv_aload_n C.hx C.hb dL_law_809 rfl (lv_at hl 4 rfl) ?_
  refine lv_aload_n C.hx C.hb dL_law_810 rfl (lv_at hl 2 rfl) ?_
  refine lv_iload C.hx C.hb dL_law_811 (lv_at hl 1 rfl) ?_
  refine lv_iconst (v := 1) C.hx C.hb dL_law_813 (by decide) ?_
  refine lv_iadd C.hx C.hb dL_law_814 ?_
  refine q_val (v := nI (i + 1)) (nI_add i 1) ?_
  refine va_sld C.hx C.hb C.X C.bl (LA0_no C.bl) hS (vp_in_nI (by omega) (by have := C.le; omega)) dL_law_815 ?_
  refine l_callMi (v := (fX7_turn (w 0 0) (w 0 1) (w 0 2) (w 0 3) (w 0 4) mm (xs (nI (i + 1)).toNatClampNeg)).1) (m2 := (fX7_turn (w 0 0) (w 0 1) (w 0 2) (w 0 3) (w 0 4) mm (xs (nI (i + 1)).toNatClampNeg)).2) (S2 := SS) hmq (As := [.int (xs (nI (i + 1)).toNatClampNeg)]) (rest := []) ⟨C.hx, C.hb, C.ml, C.own, C.ts⟩ (mX7_turn l D cy e0 mm SS _ (xs (nI (i + 1)).toNatClampNeg) hR.I hR.t4 hR.cap) (cwV 1 C.ts gL_law_X7_turn rfl rfl rfl (by decide +kernel) ⟨Nat.le_of_ble_eq_true rfl, Nat.le_of_ble_eq_true rfl⟩) hB hL hS rfl hl.1 (Nat.le_of_ble_eq_true rfl) dL_law_816 ⟨by refine Nat.le_trans (m := 400000) ?_ rc_c; show cells + _ + _ ≤ 400000; omega, by refine Nat.le_trans (m := 4000000) ?_ rc_s; show slots + _ + _ ≤ 4000000; omega⟩ (fun H locs hL hS => ?_)
  refine lv_istore (lv' := [(6, .int (fX7_turn (w 0 0) (w 0 1) (w 0 2) (w 0 3) (w 0 4) mm (xs (nI (i + 1)).toNatClampNeg)).1), (5, .int (k13 (fX6_turn g (xs (nI (i + 1)).toNatClampNeg)).1)), (4, .int (nI i)), (0, .ref b), (1, .ref (ad 0 0)), (2, .ref mq), (3, .ref o)]) C.hx C.hb dL_law_819 hl (by decide) rfl (fun ls hl => ?_)
  refine lv_aload_n C.hx C.hb dL_law_821 rfl (lv_at hl 5 rfl) ?_
  refine l_callMi (v := (fX7_turn (w 0 0) (w 0 1) (w 0 2) (w 0 3) (w 0 4) mm (xs (nI (i + 1)).toNatClampNeg)).2 0 20) (m2 := (fX7_turn (w 0 0) (w 0 1) (w 0 2) (w 0 3) (w 0 4) mm (xs (nI (i + 1)).toNatClampNeg)).2) (S2 := SS) hmq (As := []) (rest := []) ⟨C.hx, C.hb, C.ml, C.own, C.ts⟩ (kX7_thrown l D cy e0 (fX7_turn (w 0 0) (w 0 1) (w 0 2) (w 0 3) (w 0 4) mm (xs (nI (i + 1)).toNatClampNeg)).2 SS _) (cwV 0 C.ts gL_law_X7_thrown rfl rfl rfl (by decide +kernel) ⟨Nat.le_of_ble_eq_true rfl, Nat.le_of_ble_eq_true rfl⟩) hB hL hS rfl hl.1 (Nat.le_of_ble_eq_true rfl) dL_law_822 ⟨by refine Nat.le_trans (m := 400000) ?_ rc_c; show cells + _ + _ + _ ≤ 400000; omega, by refine Nat.le_trans (m := 4000000) ?_ rc_s; show slots + _ + _ + _ ≤ 4000000; omega⟩ (fun H locs hL hS => ?_)
  refine lv_iload C.hx C.hb dL_law_825 (lv_at hl 1 rfl) ?_
  refine lv_icmp_eq (tgt := 832) C.hx C.hb dL_law_827 (by decide) (fun _ => ?_) (fun c => absurd hP.1 c)
  have K : W p l e room_1 s m #[Value.ref b] below meth c H locs (cells + 2 + 0 + 0) (slots + 12 + 0 + 0) Q (F0 m 849 ls []) := by
    refine lv_goto (tgt := 2075) C.hx C.hb dL_law_849 (by decide) ?_
    refine W.widen (k := cells + 450) (n := slots + 6200) (by omega) (by omega) ?_
    exact kk _ _ _ w _ _ _ _ ls hL (RS.of hP rfl rfl rfl rfl hR.t4 hR.cap) hS hmq (lv_sub hl [2, 3, 4, 5, 6] rfl)
  refine lv_iload C.hx C.hb dL_law_832 (lv_at hl 1 rfl) ?_
  refine lv_if_ne (tgt := 849) C.hx C.hb dL_law_834 (by decide) (fun _ => K) (fun hz => ?_)
  have hc0 : (fX6_turn g (xs (nI (i + 1)).toNatClampNeg)).1 = 0 := by
    rcases hcd with h | h | h
    · exact h
    · exact absurd (show (k13 (fX6_turn g (xs (nI (i + 1)).toNatClampNeg)).1) = 0 from Classical.byContradiction (fun q => by first | exact hz q | exact q hz)) (by rw [h.1]; decide)
    · exact absurd (show (k13 (fX6_turn g (xs (nI (i + 1)).toNatClampNeg)).1) = 0 from Classical.byContradiction (fun q => by first | exact hz q | exact q hz)) (by rw [h.1]; decide)
  refine lv_aload_n C.hx C.hb dL_law_837 rfl (lv_at hl 6 rfl) ?_
  refine lv_iconst (v := 0) C.hx C.hb dL_law_838 (by decide) ?_
  refine l_lald C.hx C.hb hB hL dL_law_839 ?_
  refine l_val (v := (fX7_turn (w 0 0) (w 0 1) (w 0 2) (w 0 3) (w 0 4) mm (xs (nI (i + 1)).toNatClampNeg)).1.toInt64) (by rw [if_pos hc0]; exact congrArg Int32.toInt64 (hP.2.1 hc0)) ?_
  refine lv_iload C.hx C.hb dL_law_840 (lv_at hl 0 rfl) ?_
  refine lv_i2l C.hx C.hb dL_law_842 rfl ?_
  refine W.lcmp C.hx C.hb dL_law_843 ?_
  refine lv_if_eq (tgt := 849) C.hx C.hb dL_law_844 (by decide) (fun _ => K) (fun c => absurd (lcmp_self _) c)
set_option maxRecDepth 100000 in
set_option maxHeartbeats 4000000 in
theorem op_cover (C : LC p l s m c b L xs) (hI : cI ad) (hB : LWB D cy e0 s) (hL : LWS D cy ad o e0 s g vo bd w mm SS H) (hR : RS g mm w) (hS : va_S (LA0 s) s.heap H locs) (hmq : bd 0 0 = mq) (hi : i + 5 ≤ L) (hc : cells + 450 ≤ 400000) (hs : slots + 6200 ≤ 4000000) (hl : lv_has ls 9 [(4, .int (nI i)), (0, .ref b), (1, .ref (ad 0 0)), (2, .ref mq), (3, .ref o)])
    (kk : ∀ (g2 : Gd) (v2 : Int64) (bd2 w2 : Nat → Nat → Nat) (m2 : Md) (S2 : Int64) (H1 : Heap) (locs1 : List Loc) (ls1 : Array Slot), LWS D cy ad o e0 s g2 v2 bd2 w2 m2 S2 H1 → RS g2 m2 w2 → va_S (LA0 s) s.heap H1 locs1 → bd2 0 0 = mq → lv_has ls1 9 [(4, .int (nI i)), (0, .ref b), (1, .ref (ad 0 0)), (2, .ref mq), (3, .ref o)] → W p l e room_1 s m #[Value.ref b] below meth c H1 locs1 (cells + 450) (slots + 6200) Q (F0 m 2075 ls1 [])) :
    W p l e room_1 s m #[Value.ref b] below meth c H locs cells slots Q (F0 m 852 ls []) := by
  have hI0 := hI
  have hl0 := C.st
  have hP : Ok (w 0 0) (w 0 1) (w 0 2) (w 0 3) (k12 (fX6_cover g (xs (nI (i + 1)).toNatClampNeg) (if (xs (nI (i + 2)).toNatClampNeg) = 0 then (0 : Int32) else 1)).1) (fX6_cover g (xs (nI (i + 1)).toNatClampNeg) (if (xs (nI (i + 2)).toNatClampNeg) = 0 then (0 : Int32) else 1)).1 (fX6_cover g (xs (nI (i + 1)).toNatClampNeg) (if (xs (nI (i + 2)).toNatClampNeg) = 0 then (0 : Int32) else 1)).2.1 (fX6_cover g (xs (nI (i + 1)).toNatClampNeg) (if (xs (nI (i + 2)).toNatClampNeg) = 0 then (0 : Int32) else 1)).2.2 (fX7_cover (w 0 0) (w 0 1) (w 0 2) (w 0 3) (w 0 4) mm (xs (nI (i + 1)).toNatClampNeg) (if (xs (nI (i + 2)).toNatClampNeg) = 0 then (0 : Int32) else 1)).1 (fX7_cover (w 0 0) (w 0 1) (w 0 2) (w 0 3) (w 0 4) mm (xs (nI (i + 1)).toNatClampNeg) (if (xs (nI (i + 2)).toNatClampNeg) = 0 then (0 : Int32) else 1)).2 := by rw [hR.t4]; exact P_cover (T := 0) hR.R hR.I hR.T (xs (nI (i + 1)).toNatClampNeg) (if (xs (nI (i + 2)).toNatClampNeg) = 0 then (0 : Int32) else 1) (bool01 _)
  have hcd := cd_cover g (xs (nI (i + 1)).toNatClampNeg) (if (xs (nI (i + 2)).toNatClampNeg) = 0 then (0 : Int32) else 1)
  have hv : IvC g := ivC_of hR.R hR.I hR.T
  have hLL := C.le
  refine lv_aload_n C.hx C.hb dL_law_852 rfl (lv_at hl 2 rfl) ?_
  refine lv_aload_n C.hx C.hb dL_law_853 rfl (lv_at hl 1 rfl) ?_
  refine lv_iload C.hx C.hb dL_law_854 (lv_at hl 0 rfl) ?_
  refine lv_iconst (v := 1) C.hx C.hb dL_law_856 (by decide) ?_
  refine lv_iadd C.hx C.hb dL_law_857 ?_
  refine q_val (v := nI (i + 1)) (nI_add i 1) ?_
  refine va_sld C.hx C.hb C.X C.bl (LA0_no C.bl) hS (vp_in_nI (by omega) (by have := C.le; omega)) dL_law_858 ?_
  refine lv_aload_n C.hx C.hb dL_law_859 rfl (lv_at hl 1 rfl) ?_
  refine lv_iload C.hx C.hb dL_law_860 (lv_at hl 0 rfl) ?_
  refine lv_iconst (v := 2) C.hx C.hb dL_law_862 (by decide) ?_
  refine lv_iadd C.hx C.hb dL_law_863 ?_
  refine q_val (v := nI (i + 2)) (nI_add i 2) ?_
  refine va_sld C.hx C.hb C.X C.bl (LA0_no C.bl) hS (vp_in_nI (by omega) (by have := C.le; omega)) dL_law_864 ?_
  refine l_bool C.hx C.hb dL_law_865 dL_law_868 dL_law_869 dL_law_872 ?_
  refine lv_aload_n C.hx C.hb dL_law_873 rfl (lv_at hl 4 rfl) ?_
  refine l_callO (g2 := (fX6_cover g (xs (nI (i + 1)).toNatClampNeg) (if (xs (nI (i + 2)).toNatClampNeg) = 0 then (0 : Int32) else 1)).2.2) (v2 := (if (fX6_cover g (xs (nI (i + 1)).toNatClampNeg) (if (xs (nI (i + 2)).toNatClampNeg) = 0 then (0 : Int32) else 1)).1 = 0 then (fX6_cover g (xs (nI (i + 1)).toNatClampNeg) (if (xs (nI (i + 2)).toNatClampNeg) = 0 then (0 : Int32) else 1)).2.1.toInt64 else vo)) (kv := (k12 (fX6_cover g (xs (nI (i + 1)).toNatClampNeg) (if (xs (nI (i + 2)).toNatClampNeg) = 0 then (0 : Int32) else 1)).1)) (As := [.ref (ad 0 0), .int (xs (nI (i + 1)).toNatClampNeg), .int (if (xs (nI (i + 2)).toNatClampNeg) = 0 then (0 : Int32) else 1), .ref o]) (rest := []) ⟨C.hx, C.hb, C.ml, C.own, C.ts⟩ (kL_cover l D cy hI hl0 g o vo _ (xs (nI (i + 1)).toNatClampNeg) (if (xs (nI (i + 2)).toNatClampNeg) = 0 then (0 : Int32) else 1) hv (bool01 _)) (vx_cwSW 4 C.ts gL_law_L_cover rfl rfl rfl (by decide +kernel) ⟨Nat.le_of_ble_eq_true rfl, Nat.le_of_ble_eq_true rfl⟩) hB hL hS rfl hl.1 (Nat.le_of_ble_eq_true rfl) dL_law_874 ⟨by refine Nat.le_trans (m := 400000) ?_ rc_c; show cells + _ ≤ 400000; omega, by refine Nat.le_trans (m := 4000000) ?_ rc_s; show slots + _ ≤ 4000000; omega⟩ (fun H locs hL hS => ?_)
  refine lv_istore (lv' := [(5, .int (k12 (fX6_cover g (xs (nI (i + 1)).toNatClampNeg) (if (xs (nI (i + 2)).toNatClampNeg) = 0 then (0 : Int32) else 1)).1)), (4, .int (nI i)), (0, .ref b), (1, .ref (ad 0 0)), (2, .ref mq), (3, .ref o)]) C.hx C.hb dL_law_877 hl (by decide) rfl (fun ls hl => ?_)
  refine lv_aload_n C.hx C.hb dL_law_879 rfl (lv_at hl 4 rfl) ?_
  refine lv_aload_n C.hx C.hb dL_law_880 rfl (lv_at hl 2 rfl) ?_
  refine lv_iload C.hx C.hb dL_law_881 (lv_at hl 1 rfl) ?_
  refine lv_iconst (v := 1) C.hx C.hb dL_law_883 (by decide) ?_
  refine lv_iadd C.hx C.hb dL_law_884 ?_
  refine q_val (v := nI (i + 1)) (nI_add i 1) ?_
  refine va_sld C.hx C.hb C.X C.bl (LA0_no C.bl) hS (vp_in_nI (by omega) (by have := C.le; omega)) dL_law_885 ?_
  refine lv_aload_n C.hx C.hb dL_law_886 rfl (lv_at hl 2 rfl) ?_
  refine lv_iload C.hx C.hb dL_law_887 (lv_at hl 1 rfl) ?_
  refine lv_iconst (v := 2) C.hx C.hb dL_law_889 (by decide) ?_
  refine lv_iadd C.hx C.hb dL_law_890 ?_
  refine q_val (v := nI (i + 2)) (nI_add i 2) ?_
  refine va_sld C.hx C.hb C.X C.bl (LA0_no C.bl) hS (vp_in_nI (by omega) (by have := C.le; omega)) dL_law_891 ?_
  refine l_bool C.hx C.hb dL_law_892 dL_law_895 dL_law_896 dL_law_899 ?_
  refine l_callMi (v := (fX7_cover (w 0 0) (w 0 1) (w 0 2) (w 0 3) (w 0 4) mm (xs (nI (i + 1)).toNatClampNeg) (if (xs (nI (i + 2)).toNatClampNeg) = 0 then (0 : Int32) else 1)).1) (m2 := (fX7_cover (w 0 0) (w 0 1) (w 0 2) (w 0 3) (w 0 4) mm (xs (nI (i + 1)).toNatClampNeg) (if (xs (nI (i + 2)).toNatClampNeg) = 0 then (0 : Int32) else 1)).2) (S2 := SS) hmq (As := [.int (xs (nI (i + 1)).toNatClampNeg), .int (if (xs (nI (i + 2)).toNatClampNeg) = 0 then (0 : Int32) else 1)]) (rest := []) ⟨C.hx, C.hb, C.ml, C.own, C.ts⟩ (mX7_cover l D cy e0 mm SS _ (xs (nI (i + 1)).toNatClampNeg) (if (xs (nI (i + 2)).toNatClampNeg) = 0 then (0 : Int32) else 1) hR.I hR.t4 hR.cap) (cwV 2 C.ts gL_law_X7_cover rfl rfl rfl (by decide +kernel) ⟨Nat.le_of_ble_eq_true rfl, Nat.le_of_ble_eq_true rfl⟩) hB hL hS rfl hl.1 (Nat.le_of_ble_eq_true rfl) dL_law_900 ⟨by refine Nat.le_trans (m := 400000) ?_ rc_c; show cells + _ + _ ≤ 400000; omega, by refine Nat.le_trans (m := 4000000) ?_ rc_s; show slots + _ + _ ≤ 4000000; omega⟩ (fun H locs hL hS => ?_)
  refine lv_istore (lv' := [(6, .int (fX7_cover (w 0 0) (w 0 1) (w 0 2) (w 0 3) (w 0 4) mm (xs (nI (i + 1)).toNatClampNeg) (if (xs (nI (i + 2)).toNatClampNeg) = 0 then (0 : Int32) else 1)).1), (5, .int (k12 (fX6_cover g (xs (nI (i + 1)).toNatClampNeg) (if (xs (nI (i + 2)).toNatClampNeg) = 0 then (0 : Int32) else 1)).1)), (4, .int (nI i)), (0, .ref b), (1, .ref (ad 0 0)), (2, .ref mq), (3, .ref o)]) C.hx C.hb dL_law_903 hl (by decide) rfl (fun ls hl => ?_)
  refine lv_aload_n C.hx C.hb dL_law_905 rfl (lv_at hl 5 rfl) ?_
  refine l_callMi (v := (fX7_cover (w 0 0) (w 0 1) (w 0 2) (w 0 3) (w 0 4) mm (xs (nI (i + 1)).toNatClampNeg) (if (xs (nI (i + 2)).toNatClampNeg) = 0 then (0 : Int32) else 1)).2 0 20) (m2 := (fX7_cover (w 0 0) (w 0 1) (w 0 2) (w 0 3) (w 0 4) mm (xs (nI (i + 1)).toNatClampNeg) (if (xs (nI (i + 2)).toNatClampNeg) = 0 then (0 : Int32) else 1)).2) (S2 := SS) hmq (As := []) (rest := []) ⟨C.hx, C.hb, C.ml, C.own, C.ts⟩ (kX7_thrown l D cy e0 (fX7_cover (w 0 0) (w 0 1) (w 0 2) (w 0 3) (w 0 4) mm (xs (nI (i + 1)).toNatClampNeg) (if (xs (nI (i + 2)).toNatClampNeg) = 0 then (0 : Int32) else 1)).2 SS _) (cwV 0 C.ts gL_law_X7_thrown rfl rfl rfl (by decide +kernel) ⟨Nat.le_of_ble_eq_true rfl, Nat.le_of_ble_eq_true rfl⟩) hB hL hS rfl hl.1 (Nat.le_of_ble_eq_true rfl) dL_law_906 ⟨by refine Nat.le_trans (m := 400000) ?_ rc_c; show cells + _ + _ + _ ≤ 400000; omega, by refine Nat.le_trans (m := 4000000) ?_ rc_s; show slots + _ + _ + _ ≤ 4000000; omega⟩ (fun H locs hL hS => ?_)
  refine lv_iload C.hx C.hb dL_law_909 (lv_at hl 1 rfl) ?_
  refine lv_icmp_eq (tgt := 916) C.hx C.hb dL_law_911 (by decide) (fun _ => ?_) (fun c => absurd hP.1 c)
  have K : W p l e room_1 s m #[Value.ref b] below meth c H locs (cells + 1 + 0 + 0) (slots + 6 + 0 + 0) Q (F0 m 940 ls []) := by
    refine lv_goto (tgt := 2075) C.hx C.hb dL_law_940 (by decide) ?_
    refine W.widen (k := cells + 450) (n := slots + 6200) (by omega) (by omega) ?_
    exact kk _ _ _ w _ _ _ _ ls hL (RS.of hP rfl rfl rfl rfl hR.t4 hR.cap) hS hmq (lv_sub hl [2, 3, 4, 5, 6] rfl)
  refine lv_iload C.hx C.hb dL_law_916 (lv_at hl 1 rfl) ?_
  refine lv_if_ne (tgt := 940) C.hx C.hb dL_law_918 (by decide) (fun _ => K) (fun hz => ?_)
  have hc0 : (fX6_cover g (xs (nI (i + 1)).toNatClampNeg) (if (xs (nI (i + 2)).toNatClampNeg) = 0 then (0 : Int32) else 1)).1 = 0 := by
    rcases hcd with h | h
    · exact h
    · exact absurd (show (k12 (fX6_cover g (xs (nI (i + 1)).toNatClampNeg) (if (xs (nI (i + 2)).toNatClampNeg) = 0 then (0 : Int32) else 1)).1) = 0 from Classical.byContradiction (fun q => by first | exact hz q | exact q hz)) (by rw [h.1]; decide)
  refine lv_aload_n C.hx C.hb dL_law_921 rfl (lv_at hl 6 rfl) ?_
  refine lv_iconst (v := 0) C.hx C.hb dL_law_922 (by decide) ?_
  refine l_lald C.hx C.hb hB hL dL_law_923 ?_
  refine l_val (v := (if (fX7_cover (w 0 0) (w 0 1) (w 0 2) (w 0 3) (w 0 4) mm (xs (nI (i + 1)).toNatClampNeg) (if (xs (nI (i + 2)).toNatClampNeg) = 0 then (0 : Int32) else 1)).1 = 0 then (0 : Int64) else 1)) (by rw [if_pos hc0, hP.2.1 hc0]; exact cover_l (by rw [← hP.2.1 hc0]; exact cover_01 hv _ _)) ?_
  refine lv_iload C.hx C.hb dL_law_924 (lv_at hl 0 rfl) ?_
  refine l_boolL C.hx C.hb dL_law_926 dL_law_929 dL_law_930 dL_law_933 ?_
  refine l_val (v := (if (fX7_cover (w 0 0) (w 0 1) (w 0 2) (w 0 3) (w 0 4) mm (xs (nI (i + 1)).toNatClampNeg) (if (xs (nI (i + 2)).toNatClampNeg) = 0 then (0 : Int32) else 1)).1 = 0 then (0 : Int64) else 1)) rfl ?_
  refine W.lcmp C.hx C.hb dL_law_934 ?_
  refine lv_if_eq (tgt := 940) C.hx C.hb dL_law_935 (by decide) (fun _ => K) (fun c => absurd (lcmp_self _) c)
set_option maxRecDepth 100000 in
set_option maxHeartbeats 4000000 in
theorem op_store (C : LC p l s m c b L xs) (hI : cI ad) (hB : LWB D cy e0 s) (hL : LWS D cy ad o e0 s g vo bd w mm SS H) (hR : RS g mm w) (hS : va_S (LA0 s) s.heap H locs) (hmq : bd 0 0 = mq) (hi : i + 5 ≤ L) (hc : cells + 450 ≤ 400000) (hs : slots + 6200 ≤ 4000000) (hl : lv_has ls 9 [(4, .int (nI i)), (0, .ref b), (1, .ref (ad 0 0)), (2, .ref mq), (3, .ref o)])
    (kk : ∀ (g2 : Gd) (v2 : Int64) (bd2 w2 : Nat → Nat → Nat) (m2 : Md) (S2 : Int64) (H1 : Heap) (locs1 : List Loc) (ls1 : Array Slot), LWS D cy ad o e0 s g2 v2 bd2 w2 m2 S2 H1 → RS g2 m2 w2 → va_S (LA0 s) s.heap H1 locs1 → bd2 0 0 = mq → lv_has ls1 9 [(4, .int (nI i)), (0, .ref b), (1, .ref (ad 0 0)), (2, .ref mq), (3, .ref o)] → W p l e room_1 s m #[Value.ref b] below meth c H1 locs1 (cells + 450) (slots + 6200) Q (F0 m 2075 ls1 [])) :
    W p l e room_1 s m #[Value.ref b] below meth c H locs cells slots Q (F0 m 943 ls []) := by
  have hI0 := hI
  have hl0 := C.st
  have hP : Ok (w 0 0) (w 0 1) (w 0 2) (w 0 3 + (fX7_store (w 0 0) (w 0 1) (w 0 2) (w 0 3) (w 0 4) mm (xs (nI (i + 1)).toNatClampNeg)).2.2) (k13 (fX6_store g (xs (nI (i + 1)).toNatClampNeg)).1) (fX6_store g (xs (nI (i + 1)).toNatClampNeg)).1 (fX6_store g (xs (nI (i + 1)).toNatClampNeg)).2.1 (fX6_store g (xs (nI (i + 1)).toNatClampNeg)).2.2 (fX7_store (w 0 0) (w 0 1) (w 0 2) (w 0 3) (w 0 4) mm (xs (nI (i + 1)).toNatClampNeg)).1 (fX7_store (w 0 0) (w 0 1) (w 0 2) (w 0 3) (w 0 4) mm (xs (nI (i + 1)).toNatClampNeg)).2.1 := by rw [hR.t4]; exact P_store hR.R hR.I hR.T (xs (nI (i + 1)).toNatClampNeg)
  have hcd := cd_store g (xs (nI (i + 1)).toNatClampNeg)
  have hv : IvC g := ivC_of hR.R hR.I hR.T
  have hLL := C.le
  refine lv_aload_n C.hx C.hb dL_law_943 rfl (lv_at hl 2 rfl) ?_
  refine lv_aload_n C.hx C.hb dL_law_944 rfl (lv_at hl 1 rfl) ?_
  refine lv_iload C.hx C.hb dL_law_945 (lv_at hl 0 rfl) ?_
  refine lv_iconst (v := 1) C.hx C.hb dL_law_947 (by decide) ?_
  refine lv_iadd C.hx C.hb dL_law_948 ?_
  refine q_val (v := nI (i + 1)) (nI_add i 1) ?_
  refine va_sld C.hx C.hb C.X C.bl (LA0_no C.bl) hS (vp_in_nI (by omega) (by have := C.le; omega)) dL_law_949 ?_
  refine lv_aload_n C.hx C.hb dL_law_950 rfl (lv_at hl 4 rfl) ?_
  refine l_callO (g2 := (fX6_store g (xs (nI (i + 1)).toNatClampNeg)).2.2) (v2 := (if (fX6_store g (xs (nI (i + 1)).toNatClampNeg)).1 = 0 then (fX6_store g (xs (nI (i + 1)).toNatClampNeg)).2.1.toInt64 else vo)) (kv := (k13 (fX6_store g (xs (nI (i + 1)).toNatClampNeg)).1)) (As := [.ref (ad 0 0), .int (xs (nI (i + 1)).toNatClampNeg), .ref o]) (rest := []) ⟨C.hx, C.hb, C.ml, C.own, C.ts⟩ (kL_store l D cy hI hl0 g o vo _ (xs (nI (i + 1)).toNatClampNeg) hv) (vx_cwSW 3 C.ts gL_law_L_store rfl rfl rfl (by decide +kernel) ⟨Nat.le_of_ble_eq_true rfl, Nat.le_of_ble_eq_true rfl⟩) hB hL hS rfl hl.1 (Nat.le_of_ble_eq_true rfl) dL_law_951 ⟨by refine Nat.le_trans (m := 400000) ?_ rc_c; show cells + _ ≤ 400000; omega, by refine Nat.le_trans (m := 4000000) ?_ rc_s; show slots + _ ≤ 4000000; omega⟩ (fun H locs hL hS => ?_)
  refine lv_istore (lv' := [(5, .int (k13 (fX6_store g (xs (nI (i + 1)).toNatClampNeg)).1)), (4, .int (nI i)), (0, .ref b), (1, .ref (ad 0 0)), (2, .ref mq), (3, .ref o)]) C.hx C.hb dL_law_954 hl (by decide) rfl (fun ls hl => ?_)
  refine lv_aload_n C.hx C.hb dL_law_956 rfl (lv_at hl 4 rfl) ?_
  refine lv_aload_n C.hx C.hb dL_law_957 rfl (lv_at hl 2 rfl) ?_
  refine lv_iload C.hx C.hb dL_law_958 (lv_at hl 1 rfl) ?_
  refine lv_iconst (v := 1) C.hx C.hb dL_law_960 (by decide) ?_
  refine lv_iadd C.hx C.hb dL_law_961 ?_
  refine q_val (v := nI (i + 1)) (nI_add i 1) ?_
  refine va_sld C.hx C.hb C.X C.bl (LA0_no C.bl) hS (vp_in_nI (by omega) (by have := C.le; omega)) dL_law_962 ?_
  refine l_callG (v := (fX7_store (w 0 0) (w 0 1) (w 0 2) (w 0 3) (w 0 4) mm (xs (nI (i + 1)).toNatClampNeg)).1) (m2 := (fX7_store (w 0 0) (w 0 1) (w 0 2) (w 0 3) (w 0 4) mm (xs (nI (i + 1)).toNatClampNeg)).2.1) (w2 := wG w 3 (fX7_store (w 0 0) (w 0 1) (w 0 2) (w 0 3) (w 0 4) mm (xs (nI (i + 1)).toNatClampNeg)).2.2) hmq (As := [.int (xs (nI (i + 1)).toNatClampNeg)]) (rest := []) ⟨C.hx, C.hb, C.ml, C.own, C.ts⟩ (mX7_store l D cy e0 mm SS _ (xs (nI (i + 1)).toNatClampNeg) hR.I hR.t4 hR.cap) (cwV 1 C.ts gL_law_X7_store rfl rfl rfl (by decide +kernel) ⟨Nat.le_of_ble_eq_true rfl, Nat.le_of_ble_eq_true rfl⟩) hB hL hS rfl hl.1 (Nat.le_of_ble_eq_true rfl) dL_law_963 ⟨by refine Nat.le_trans (m := 400000) ?_ rc_c; show cells + _ + _ ≤ 400000; omega, by refine Nat.le_trans (m := 4000000) ?_ rc_s; show slots + _ + _ ≤ 4000000; omega⟩ (fun bd2 H locs hmq hL hS => ?_)
  refine lv_istore (lv' := [(6, .int (fX7_store (w 0 0) (w 0 1) (w 0 2) (w 0 3) (w 0 4) mm (xs (nI (i + 1)).toNatClampNeg)).1), (5, .int (k13 (fX6_store g (xs (nI (i + 1)).toNatClampNeg)).1)), (4, .int (nI i)), (0, .ref b), (1, .ref (ad 0 0)), (2, .ref mq), (3, .ref o)]) C.hx C.hb dL_law_966 hl (by decide) rfl (fun ls hl => ?_)
  refine lv_aload_n C.hx C.hb dL_law_968 rfl (lv_at hl 5 rfl) ?_
  refine l_callMi (v := (fX7_store (w 0 0) (w 0 1) (w 0 2) (w 0 3) (w 0 4) mm (xs (nI (i + 1)).toNatClampNeg)).2.1 0 20) (m2 := (fX7_store (w 0 0) (w 0 1) (w 0 2) (w 0 3) (w 0 4) mm (xs (nI (i + 1)).toNatClampNeg)).2.1) (S2 := SS) hmq (As := []) (rest := []) ⟨C.hx, C.hb, C.ml, C.own, C.ts⟩ (kX7_thrown l D cy e0 (fX7_store (w 0 0) (w 0 1) (w 0 2) (w 0 3) (w 0 4) mm (xs (nI (i + 1)).toNatClampNeg)).2.1 SS _) (cwV 0 C.ts gL_law_X7_thrown rfl rfl rfl (by decide +kernel) ⟨Nat.le_of_ble_eq_true rfl, Nat.le_of_ble_eq_true rfl⟩) hB hL hS rfl hl.1 (Nat.le_of_ble_eq_true rfl) dL_law_969 ⟨by refine Nat.le_trans (m := 400000) ?_ rc_c; show cells + _ + _ + _ ≤ 400000; omega, by refine Nat.le_trans (m := 4000000) ?_ rc_s; show slots + _ + _ + _ ≤ 4000000; omega⟩ (fun H locs hL hS => ?_)
  refine lv_iload C.hx C.hb dL_law_972 (lv_at hl 1 rfl) ?_
  refine lv_icmp_eq (tgt := 979) C.hx C.hb dL_law_974 (by decide) (fun _ => ?_) (fun c => absurd hP.1 c)
  have hn := n01_store (w 0 0) (w 0 1) (w 0 2) (w 0 3) (w 0 4) mm (xs (nI (i + 1)).toNatClampNeg)
  have K : W p l e room_1 s m #[Value.ref b] below meth c H locs (cells + 2 + 2 + 0) (slots + 12 + 87 + 0) Q (F0 m 996 ls []) := by
    refine lv_goto (tgt := 2075) C.hx C.hb dL_law_996 (by decide) ?_
    refine W.widen (k := cells + 450) (n := slots + 6200) (by omega) (by omega) ?_
    exact kk _ _ _ (wG w 3 (fX7_store (w 0 0) (w 0 1) (w 0 2) (w 0 3) (w 0 4) mm (xs (nI (i + 1)).toNatClampNeg)).2.2) _ _ _ _ ls hL (RS.of hP (by rw [wG_size (by decide) hn]; rfl) (by rw [wG_size (by decide) hn]; rfl) (by rw [wG_size (by decide) hn]; rfl) (by rw [wG_size (by decide) hn]; rfl) (by rw [wG_size (by decide) hn]; exact hR.t4) (fun i hi => capI_G (by decide) hR.cap hi)) hS hmq (lv_sub hl [2, 3, 4, 5, 6] rfl)
  refine lv_iload C.hx C.hb dL_law_979 (lv_at hl 1 rfl) ?_
  refine lv_if_ne (tgt := 996) C.hx C.hb dL_law_981 (by decide) (fun _ => K) (fun hz => ?_)
  have hc0 : (fX6_store g (xs (nI (i + 1)).toNatClampNeg)).1 = 0 := by
    rcases hcd with h | h | h
    · exact h
    · exact absurd (show (k13 (fX6_store g (xs (nI (i + 1)).toNatClampNeg)).1) = 0 from Classical.byContradiction (fun q => by first | exact hz q | exact q hz)) (by rw [h.1]; decide)
    · exact absurd (show (k13 (fX6_store g (xs (nI (i + 1)).toNatClampNeg)).1) = 0 from Classical.byContradiction (fun q => by first | exact hz q | exact q hz)) (by rw [h.1]; decide)
  refine lv_aload_n C.hx C.hb dL_law_984 rfl (lv_at hl 6 rfl) ?_
  refine lv_iconst (v := 0) C.hx C.hb dL_law_985 (by decide) ?_
  refine l_lald C.hx C.hb hB hL dL_law_986 ?_
  refine l_val (v := (fX7_store (w 0 0) (w 0 1) (w 0 2) (w 0 3) (w 0 4) mm (xs (nI (i + 1)).toNatClampNeg)).1.toInt64) (by rw [if_pos hc0]; exact congrArg Int32.toInt64 (hP.2.1 hc0)) ?_
  refine lv_iload C.hx C.hb dL_law_987 (lv_at hl 0 rfl) ?_
  refine lv_i2l C.hx C.hb dL_law_989 rfl ?_
  refine W.lcmp C.hx C.hb dL_law_990 ?_
  refine lv_if_eq (tgt := 996) C.hx C.hb dL_law_991 (by decide) (fun _ => K) (fun c => absurd (lcmp_self _) c)
set_option maxRecDepth 100000 in
set_option maxHeartbeats 4000000 in
theorem op_bias (C : LC p l s m c b L xs) (hI : cI ad) (hB : LWB D cy e0 s) (hL : LWS D cy ad o e0 s g vo bd w mm SS H) (hR : RS g mm w) (hS : va_S (LA0 s) s.heap H locs) (hmq : bd 0 0 = mq) (hi : i + 5 ≤ L) (hc : cells + 450 ≤ 400000) (hs : slots + 6200 ≤ 4000000) (hl : lv_has ls 9 [(4, .int (nI i)), (0, .ref b), (1, .ref (ad 0 0)), (2, .ref mq), (3, .ref o)])
    (kk : ∀ (g2 : Gd) (v2 : Int64) (bd2 w2 : Nat → Nat → Nat) (m2 : Md) (S2 : Int64) (H1 : Heap) (locs1 : List Loc) (ls1 : Array Slot), LWS D cy ad o e0 s g2 v2 bd2 w2 m2 S2 H1 → RS g2 m2 w2 → va_S (LA0 s) s.heap H1 locs1 → bd2 0 0 = mq → lv_has ls1 9 [(4, .int (nI i)), (0, .ref b), (1, .ref (ad 0 0)), (2, .ref mq), (3, .ref o)] → W p l e room_1 s m #[Value.ref b] below meth c H1 locs1 (cells + 450) (slots + 6200) Q (F0 m 2075 ls1 [])) :
    W p l e room_1 s m #[Value.ref b] below meth c H locs cells slots Q (F0 m 999 ls []) := by
  have hI0 := hI
  have hl0 := C.st
  have hP : Ok (w 0 0) (w 0 1) (w 0 2) (w 0 3) (k12 (fX6_bias g (xs (nI (i + 1)).toNatClampNeg) (xs (nI (i + 2)).toNatClampNeg)).1) (fX6_bias g (xs (nI (i + 1)).toNatClampNeg) (xs (nI (i + 2)).toNatClampNeg)).1 (fX6_bias g (xs (nI (i + 1)).toNatClampNeg) (xs (nI (i + 2)).toNatClampNeg)).2.1 (fX6_bias g (xs (nI (i + 1)).toNatClampNeg) (xs (nI (i + 2)).toNatClampNeg)).2.2 (fX7_bias (w 0 0) (w 0 1) (w 0 2) (w 0 3) (w 0 4) mm (xs (nI (i + 1)).toNatClampNeg) (xs (nI (i + 2)).toNatClampNeg)).1 (fX7_bias (w 0 0) (w 0 1) (w 0 2) (w 0 3) (w 0 4) mm (xs (nI (i + 1)).toNatClampNeg) (xs (nI (i + 2)).toNatClampNeg)).2 := by rw [hR.t4]; exact P_bias (T := 0) hR.R hR.I hR.T (xs (nI (i + 1)).toNatClampNeg) (xs (nI (i + 2)).toNatClampNeg)
  have hcd := cd_bias g (xs (nI (i + 1)).toNatClampNeg) (xs (nI (i + 2)).toNatClampNeg)
  have hv : IvC g := ivC_of hR.R hR.I hR.T
  have hLL := C.le
  refine lv_aload_n C.hx C.hb dL_law_999 rfl (lv_at hl 2 rfl) ?_
  refine lv_aload_n C.hx C.hb dL_law_1000 rfl (lv_at hl 1 rfl) ?_
  refine lv_iload C.hx C.hb dL_law_1001 (lv_at hl 0 rfl) ?_
  refine lv_iconst (v := 1) C.hx C.hb dL_law_1003 (by decide) ?_
  refine lv_iadd C.hx C.hb dL_law_1004 ?_
  refine q_val (v := nI (i + 1)) (nI_add i 1) ?_
  refine va_sld C.hx C.hb C.X C.bl (LA0_no C.bl) hS (vp_in_nI (by omega) (by have := C.le; omega)) dL_law_1005 ?_
  refine lv_aload_n C.hx C.hb dL_law_1006 rfl (lv_at hl 1 rfl) ?_
  refine lv_iload C.hx C.hb dL_law_1007 (lv_at hl 0 rfl) ?_
  refine lv_iconst (v := 2) C.hx C.hb dL_law_1009 (by decide) ?_
  refine lv_iadd C.hx C.hb dL_law_1010 ?_
  refine q_val (v := nI (i + 2)) (nI_add i 2) ?_
  refine va_sld C.hx C.hb C.X C.bl (LA0_no C.bl) hS (vp_in_nI (by omega) (by have := C.le; omega)) dL_law_1011 ?_
  refine lv_aload_n C.hx C.hb dL_law_1012 rfl (lv_at hl 4 rfl) ?_
  refine l_callO (g2 := (fX6_bias g (xs (nI (i + 1)).toNatClampNeg) (xs (nI (i + 2)).toNatClampNeg)).2.2) (v2 := (if (fX6_bias g (xs (nI (i + 1)).toNatClampNeg) (xs (nI (i + 2)).toNatClampNeg)).1 = 0 then (fX6_bias g (xs (nI (i + 1)).toNatClampNeg) (xs (nI (i + 2)).toNatClampNeg)).2.1.toInt64 else vo)) (kv := (k12 (fX6_bias g (xs (nI (i + 1)).toNatClampNeg) (xs (nI (i + 2)).toNatClampNeg)).1)) (As := [.ref (ad 0 0), .int (xs (nI (i + 1)).toNatClampNeg), .int (xs (nI (i + 2)).toNatClampNeg), .ref o]) (rest := []) ⟨C.hx, C.hb, C.ml, C.own, C.ts⟩ (kL_bias l D cy hI hl0 g o vo _ (xs (nI (i + 1)).toNatClampNeg) (xs (nI (i + 2)).toNatClampNeg) ) (vx_cwSW 4 C.ts gL_law_L_bias rfl rfl rfl (by decide +kernel) ⟨Nat.le_of_ble_eq_true rfl, Nat.le_of_ble_eq_true rfl⟩) hB hL hS rfl hl.1 (Nat.le_of_ble_eq_true rfl) dL_law_1013 ⟨by refine Nat.le_trans (m := 400000) ?_ rc_c; show cells + _ ≤ 400000; omega, by refine Nat.le_trans (m := 4000000) ?_ rc_s; show slots + _ ≤ 4000000; omega⟩ (fun H locs hL hS => ?_)
  refine lv_istore (lv' := [(5, .int (k12 (fX6_bias g (xs (nI (i + 1)).toNatClampNeg) (xs (nI (i + 2)).toNatClampNeg)).1)), (4, .int (nI i)), (0, .ref b), (1, .ref (ad 0 0)), (2, .ref mq), (3, .ref o)]) C.hx C.hb dL_law_1016 hl (by decide) rfl (fun ls hl => ?_)
  refine lv_aload_n C.hx C.hb dL_law_1018 rfl (lv_at hl 4 rfl) ?_
  refine lv_aload_n C.hx C.hb dL_law_1019 rfl (lv_at hl 2 rfl) ?_
  refine lv_iload C.hx C.hb dL_law_1020 (lv_at hl 1 rfl) ?_
  refine lv_iconst (v := 1) C.hx C.hb dL_law_1022 (by decide) ?_
  refine lv_iadd C.hx C.hb dL_law_1023 ?_
  refine q_val (v := nI (i + 1)) (nI_add i 1) ?_
  refine va_sld C.hx C.hb C.X C.bl (LA0_no C.bl) hS (vp_in_nI (by omega) (by have := C.le; omega)) dL_law_1024 ?_
  refine lv_aload_n C.hx C.hb dL_law_1025 rfl (lv_at hl 2 rfl) ?_
  refine lv_iload C.hx C.hb dL_law_1026 (lv_at hl 1 rfl) ?_
  refine lv_iconst (v := 2) C.hx C.hb dL_law_1028 (by decide) ?_
  refine lv_iadd C.hx C.hb dL_law_1029 ?_
  refine q_val (v := nI (i + 2)) (nI_add i 2) ?_
  refine va_sld C.hx C.hb C.X C.bl (LA0_no C.bl) hS (vp_in_nI (by omega) (by have := C.le; omega)) dL_law_1030 ?_
  refine l_callMi (v := (fX7_bias (w 0 0) (w 0 1) (w 0 2) (w 0 3) (w 0 4) mm (xs (nI (i + 1)).toNatClampNeg) (xs (nI (i + 2)).toNatClampNeg)).1) (m2 := (fX7_bias (w 0 0) (w 0 1) (w 0 2) (w 0 3) (w 0 4) mm (xs (nI (i + 1)).toNatClampNeg) (xs (nI (i + 2)).toNatClampNeg)).2) (S2 := SS) hmq (As := [.int (xs (nI (i + 1)).toNatClampNeg), .int (xs (nI (i + 2)).toNatClampNeg)]) (rest := []) ⟨C.hx, C.hb, C.ml, C.own, C.ts⟩ (mX7_bias l D cy e0 mm SS _ (xs (nI (i + 1)).toNatClampNeg) (xs (nI (i + 2)).toNatClampNeg) hR.I hR.t4 hR.cap) (cwV 2 C.ts gL_law_X7_bias rfl rfl rfl (by decide +kernel) ⟨Nat.le_of_ble_eq_true rfl, Nat.le_of_ble_eq_true rfl⟩) hB hL hS rfl hl.1 (Nat.le_of_ble_eq_true rfl) dL_law_1031 ⟨by refine Nat.le_trans (m := 400000) ?_ rc_c; show cells + _ + _ ≤ 400000; omega, by refine Nat.le_trans (m := 4000000) ?_ rc_s; show slots + _ + _ ≤ 4000000; omega⟩ (fun H locs hL hS => ?_)
  refine lv_istore (lv' := [(6, .int (fX7_bias (w 0 0) (w 0 1) (w 0 2) (w 0 3) (w 0 4) mm (xs (nI (i + 1)).toNatClampNeg) (xs (nI (i + 2)).toNatClampNeg)).1), (5, .int (k12 (fX6_bias g (xs (nI (i + 1)).toNatClampNeg) (xs (nI (i + 2)).toNatClampNeg)).1)), (4, .int (nI i)), (0, .ref b), (1, .ref (ad 0 0)), (2, .ref mq), (3, .ref o)]) C.hx C.hb dL_law_1034 hl (by decide) rfl (fun ls hl => ?_)
  refine lv_aload_n C.hx C.hb dL_law_1036 rfl (lv_at hl 5 rfl) ?_
  refine l_callMi (v := (fX7_bias (w 0 0) (w 0 1) (w 0 2) (w 0 3) (w 0 4) mm (xs (nI (i + 1)).toNatClampNeg) (xs (nI (i + 2)).toNatClampNeg)).2 0 20) (m2 := (fX7_bias (w 0 0) (w 0 1) (w 0 2) (w 0 3) (w 0 4) mm (xs (nI (i + 1)).toNatClampNeg) (xs (nI (i + 2)).toNatClampNeg)).2) (S2 := SS) hmq (As := []) (rest := []) ⟨C.hx, C.hb, C.ml, C.own, C.ts⟩ (kX7_thrown l D cy e0 (fX7_bias (w 0 0) (w 0 1) (w 0 2) (w 0 3) (w 0 4) mm (xs (nI (i + 1)).toNatClampNeg) (xs (nI (i + 2)).toNatClampNeg)).2 SS _) (cwV 0 C.ts gL_law_X7_thrown rfl rfl rfl (by decide +kernel) ⟨Nat.le_of_ble_eq_true rfl, Nat.le_of_ble_eq_true rfl⟩) hB hL hS rfl hl.1 (Nat.le_of_ble_eq_true rfl) dL_law_1037 ⟨by refine Nat.le_trans (m := 400000) ?_ rc_c; show cells + _ + _ + _ ≤ 400000; omega, by refine Nat.le_trans (m := 4000000) ?_ rc_s; show slots + _ + _ + _ ≤ 4000000; omega⟩ (fun H locs hL hS => ?_)
  refine lv_iload C.hx C.hb dL_law_1040 (lv_at hl 1 rfl) ?_
  refine lv_icmp_eq (tgt := 1047) C.hx C.hb dL_law_1042 (by decide) (fun _ => ?_) (fun c => absurd hP.1 c)
  have K : W p l e room_1 s m #[Value.ref b] below meth c H locs (cells + 2 + 0 + 0) (slots + 12 + 0 + 0) Q (F0 m 1064 ls []) := by
    refine lv_goto (tgt := 2075) C.hx C.hb dL_law_1064 (by decide) ?_
    refine W.widen (k := cells + 450) (n := slots + 6200) (by omega) (by omega) ?_
    exact kk _ _ _ w _ _ _ _ ls hL (RS.of hP rfl rfl rfl rfl hR.t4 hR.cap) hS hmq (lv_sub hl [2, 3, 4, 5, 6] rfl)
  refine lv_iload C.hx C.hb dL_law_1047 (lv_at hl 1 rfl) ?_
  refine lv_if_ne (tgt := 1064) C.hx C.hb dL_law_1049 (by decide) (fun _ => K) (fun hz => ?_)
  have hc0 : (fX6_bias g (xs (nI (i + 1)).toNatClampNeg) (xs (nI (i + 2)).toNatClampNeg)).1 = 0 := by
    rcases hcd with h | h | h
    · exact h
    · exact absurd (show (k12 (fX6_bias g (xs (nI (i + 1)).toNatClampNeg) (xs (nI (i + 2)).toNatClampNeg)).1) = 0 from Classical.byContradiction (fun q => by first | exact hz q | exact q hz)) (by rw [h.1]; decide)
    · exact absurd (show (k12 (fX6_bias g (xs (nI (i + 1)).toNatClampNeg) (xs (nI (i + 2)).toNatClampNeg)).1) = 0 from Classical.byContradiction (fun q => by first | exact hz q | exact q hz)) (by rw [h.1]; decide)
  refine lv_aload_n C.hx C.hb dL_law_1052 rfl (lv_at hl 6 rfl) ?_
  refine lv_iconst (v := 0) C.hx C.hb dL_law_1053 (by decide) ?_
  refine l_lald C.hx C.hb hB hL dL_law_1054 ?_
  refine l_val (v := (fX7_bias (w 0 0) (w 0 1) (w 0 2) (w 0 3) (w 0 4) mm (xs (nI (i + 1)).toNatClampNeg) (xs (nI (i + 2)).toNatClampNeg)).1.toInt64) (by rw [if_pos hc0]; exact congrArg Int32.toInt64 (hP.2.1 hc0)) ?_
  refine lv_iload C.hx C.hb dL_law_1055 (lv_at hl 0 rfl) ?_
  refine lv_i2l C.hx C.hb dL_law_1057 rfl ?_
  refine W.lcmp C.hx C.hb dL_law_1058 ?_
  refine lv_if_eq (tgt := 1064) C.hx C.hb dL_law_1059 (by decide) (fun _ => K) (fun c => absurd (lcmp_self _) c)
set_option maxRecDepth 100000 in
set_option maxHeartbeats 4000000 in
theorem op_cup (C : LC p l s m c b L xs) (hI : cI ad) (hB : LWB D cy e0 s) (hL : LWS D cy ad o e0 s g vo bd w mm SS H) (hR : RS g mm w) (hS : va_S (LA0 s) s.heap H locs) (hmq : bd 0 0 = mq) (hi : i + 5 ≤ L) (hc : cells + 450 ≤ 400000) (hs : slots + 6200 ≤ 4000000) (hl : lv_has ls 9 [(4, .int (nI i)), (0, .ref b), (1, .ref (ad 0 0)), (2, .ref mq), (3, .ref o)])
    (kk : ∀ (g2 : Gd) (v2 : Int64) (bd2 w2 : Nat → Nat → Nat) (m2 : Md) (S2 : Int64) (H1 : Heap) (locs1 : List Loc) (ls1 : Array Slot), LWS D cy ad o e0 s g2 v2 bd2 w2 m2 S2 H1 → RS g2 m2 w2 → va_S (LA0 s) s.heap H1 locs1 → bd2 0 0 = mq → lv_has ls1 9 [(4, .int (nI i)), (0, .ref b), (1, .ref (ad 0 0)), (2, .ref mq), (3, .ref o)] → W p l e room_1 s m #[Value.ref b] below meth c H1 locs1 (cells + 450) (slots + 6200) Q (F0 m 2075 ls1 [])) :
    W p l e room_1 s m #[Value.ref b] below meth c H locs cells slots Q (F0 m 1067 ls []) := by
  have hI0 := hI
  have hl0 := C.st
  have hP : Ok (w 0 0) (w 0 1) (w 0 2) (w 0 3) (k13 (fX6_cup g (xs (nI (i + 1)).toNatClampNeg) (xs (nI (i + 2)).toNatClampNeg)).1) (fX6_cup g (xs (nI (i + 1)).toNatClampNeg) (xs (nI (i + 2)).toNatClampNeg)).1 (fX6_cup g (xs (nI (i + 1)).toNatClampNeg) (xs (nI (i + 2)).toNatClampNeg)).2.1 (fX6_cup g (xs (nI (i + 1)).toNatClampNeg) (xs (nI (i + 2)).toNatClampNeg)).2.2 (fX7_cup (w 0 0) (w 0 1) (w 0 2) (w 0 3) (w 0 4) mm (xs (nI (i + 1)).toNatClampNeg) (xs (nI (i + 2)).toNatClampNeg)).1 (fX7_cup (w 0 0) (w 0 1) (w 0 2) (w 0 3) (w 0 4) mm (xs (nI (i + 1)).toNatClampNeg) (xs (nI (i + 2)).toNatClampNeg)).2 := by rw [hR.t4]; exact P_cup (T := 0) hR.R hR.I hR.T (xs (nI (i + 1)).toNatClampNeg) (xs (nI (i + 2)).toNatClampNeg)
  have hcd := cd_cup g (xs (nI (i + 1)).toNatClampNeg) (xs (nI (i + 2)).toNatClampNeg)
  have hv : IvC g := ivC_of hR.R hR.I hR.T
  have hLL := C.le
  refine lv_aload_n C.hx C.hb dL_law_1067 rfl (lv_at hl 2 rfl) ?_
  refine lv_aload_n C.hx C.hb dL_law_1068 rfl (lv_at hl 1 rfl) ?_
  refine lv_iload C.hx C.hb dL_law_1069 (lv_at hl 0 rfl) ?_
  refine lv_iconst (v := 1) C.hx C.hb dL_law_1071 (by decide) ?_
  refine lv_iadd C.hx C.hb dL_law_1072 ?_
  refine q_val (v := nI (i + 1)) (nI_add i 1) ?_
  refine va_sld C.hx C.hb C.X C.bl (LA0_no C.bl) hS (vp_in_nI (by omega) (by have := C.le; omega)) dL_law_1073 ?_
  refine lv_aload_n C.hx C.hb dL_law_1074 rfl (lv_at hl 1 rfl) ?_
  refine lv_iload C.hx C.hb dL_law_1075 (lv_at hl 0 rfl) ?_
  refine lv_iconst (v := 2) C.hx C.hb dL_law_1077 (by decide) ?_
  refine lv_iadd C.hx C.hb dL_law_1078 ?_
  refine q_val (v := nI (i + 2)) (nI_add i 2) ?_
  refine va_sld C.hx C.hb C.X C.bl (LA0_no C.bl) hS (vp_in_nI (by omega) (by have := C.le; omega)) dL_law_1079 ?_
  refine lv_aload_n C.hx C.hb dL_law_1080 rfl (lv_at hl 4 rfl) ?_
  refine l_callO (g2 := (fX6_cup g (xs (nI (i + 1)).toNatClampNeg) (xs (nI (i + 2)).toNatClampNeg)).2.2) (v2 := (if (fX6_cup g (xs (nI (i + 1)).toNatClampNeg) (xs (nI (i + 2)).toNatClampNeg)).1 = 0 then (fX6_cup g (xs (nI (i + 1)).toNatClampNeg) (xs (nI (i + 2)).toNatClampNeg)).2.1.toInt64 else vo)) (kv := (k13 (fX6_cup g (xs (nI (i + 1)).toNatClampNeg) (xs (nI (i + 2)).toNatClampNeg)).1)) (As := [.ref (ad 0 0), .int (xs (nI (i + 1)).toNatClampNeg), .int (xs (nI (i + 2)).toNatClampNeg), .ref o]) (rest := []) ⟨C.hx, C.hb, C.ml, C.own, C.ts⟩ (kL_cup l D cy hI hl0 g o vo _ (xs (nI (i + 1)).toNatClampNeg) (xs (nI (i + 2)).toNatClampNeg) hv) (vx_cwSW 4 C.ts gL_law_L_cup rfl rfl rfl (by decide +kernel) ⟨Nat.le_of_ble_eq_true rfl, Nat.le_of_ble_eq_true rfl⟩) hB hL hS rfl hl.1 (Nat.le_of_ble_eq_true rfl) dL_law_1081 ⟨by refine Nat.le_trans (m := 400000) ?_ rc_c; show cells + _ ≤ 400000; omega, by refine Nat.le_trans (m := 4000000) ?_ rc_s; show slots + _ ≤ 4000000; omega⟩ (fun H locs hL hS => ?_)
  refine lv_istore (lv' := [(5, .int (k13 (fX6_cup g (xs (nI (i + 1)).toNatClampNeg) (xs (nI (i + 2)).toNatClampNeg)).1)), (4, .int (nI i)), (0, .ref b), (1, .ref (ad 0 0)), (2, .ref mq), (3, .ref o)]) C.hx C.hb dL_law_1084 hl (by decide) rfl (fun ls hl => ?_)
  refine lv_aload_n C.hx C.hb dL_law_1086 rfl (lv_at hl 4 rfl) ?_
  refine lv_aload_n C.hx C.hb dL_law_1087 rfl (lv_at hl 2 rfl) ?_
  refine lv_iload C.hx C.hb dL_law_1088 (lv_at hl 1 rfl) ?_
  refine lv_iconst (v := 1) C.hx C.hb dL_law_1090 (by decide) ?_
  refine lv_iadd C.hx C.hb dL_law_1091 ?_
  refine q_val (v := nI (i + 1)) (nI_add i 1) ?_
  refine va_sld C.hx C.hb C.X C.bl (LA0_no C.bl) hS (vp_in_nI (by omega) (by have := C.le; omega)) dL_law_1092 ?_
  refine lv_aload_n C.hx C.hb dL_law_1093 rfl (lv_at hl 2 rfl) ?_
  refine lv_iload C.hx C.hb dL_law_1094 (lv_at hl 1 rfl) ?_
  refine lv_iconst (v := 2) C.hx C.hb dL_law_1096 (by decide) ?_
  refine lv_iadd C.hx C.hb dL_law_1097 ?_
  refine q_val (v := nI (i + 2)) (nI_add i 2) ?_
  refine va_sld C.hx C.hb C.X C.bl (LA0_no C.bl) hS (vp_in_nI (by omega) (by have := C.le; omega)) dL_law_1098 ?_
  refine l_callMi (v := (fX7_cup (w 0 0) (w 0 1) (w 0 2) (w 0 3) (w 0 4) mm (xs (nI (i + 1)).toNatClampNeg) (xs (nI (i + 2)).toNatClampNeg)).1) (m2 := (fX7_cup (w 0 0) (w 0 1) (w 0 2) (w 0 3) (w 0 4) mm (xs (nI (i + 1)).toNatClampNeg) (xs (nI (i + 2)).toNatClampNeg)).2) (S2 := SS) hmq (As := [.int (xs (nI (i + 1)).toNatClampNeg), .int (xs (nI (i + 2)).toNatClampNeg)]) (rest := []) ⟨C.hx, C.hb, C.ml, C.own, C.ts⟩ (mX7_cup l D cy e0 mm SS _ (xs (nI (i + 1)).toNatClampNeg) (xs (nI (i + 2)).toNatClampNeg) hR.I hR.t4 hR.cap) (cwV 2 C.ts gL_law_X7_cup rfl rfl rfl (by decide +kernel) ⟨Nat.le_of_ble_eq_true rfl, Nat.le_of_ble_eq_true rfl⟩) hB hL hS rfl hl.1 (Nat.le_of_ble_eq_true rfl) dL_law_1099 ⟨by refine Nat.le_trans (m := 400000) ?_ rc_c; show cells + _ + _ ≤ 400000; omega, by refine Nat.le_trans (m := 4000000) ?_ rc_s; show slots + _ + _ ≤ 4000000; omega⟩ (fun H locs hL hS => ?_)
  refine lv_istore (lv' := [(6, .int (fX7_cup (w 0 0) (w 0 1) (w 0 2) (w 0 3) (w 0 4) mm (xs (nI (i + 1)).toNatClampNeg) (xs (nI (i + 2)).toNatClampNeg)).1), (5, .int (k13 (fX6_cup g (xs (nI (i + 1)).toNatClampNeg) (xs (nI (i + 2)).toNatClampNeg)).1)), (4, .int (nI i)), (0, .ref b), (1, .ref (ad 0 0)), (2, .ref mq), (3, .ref o)]) C.hx C.hb dL_law_1102 hl (by decide) rfl (fun ls hl => ?_)
  refine lv_aload_n C.hx C.hb dL_law_1104 rfl (lv_at hl 5 rfl) ?_
  refine l_callMi (v := (fX7_cup (w 0 0) (w 0 1) (w 0 2) (w 0 3) (w 0 4) mm (xs (nI (i + 1)).toNatClampNeg) (xs (nI (i + 2)).toNatClampNeg)).2 0 20) (m2 := (fX7_cup (w 0 0) (w 0 1) (w 0 2) (w 0 3) (w 0 4) mm (xs (nI (i + 1)).toNatClampNeg) (xs (nI (i + 2)).toNatClampNeg)).2) (S2 := SS) hmq (As := []) (rest := []) ⟨C.hx, C.hb, C.ml, C.own, C.ts⟩ (kX7_thrown l D cy e0 (fX7_cup (w 0 0) (w 0 1) (w 0 2) (w 0 3) (w 0 4) mm (xs (nI (i + 1)).toNatClampNeg) (xs (nI (i + 2)).toNatClampNeg)).2 SS _) (cwV 0 C.ts gL_law_X7_thrown rfl rfl rfl (by decide +kernel) ⟨Nat.le_of_ble_eq_true rfl, Nat.le_of_ble_eq_true rfl⟩) hB hL hS rfl hl.1 (Nat.le_of_ble_eq_true rfl) dL_law_1105 ⟨by refine Nat.le_trans (m := 400000) ?_ rc_c; show cells + _ + _ + _ ≤ 400000; omega, by refine Nat.le_trans (m := 4000000) ?_ rc_s; show slots + _ + _ + _ ≤ 4000000; omega⟩ (fun H locs hL hS => ?_)
  refine lv_iload C.hx C.hb dL_law_1108 (lv_at hl 1 rfl) ?_
  refine lv_icmp_eq (tgt := 1115) C.hx C.hb dL_law_1110 (by decide) (fun _ => ?_) (fun c => absurd hP.1 c)
  have K : W p l e room_1 s m #[Value.ref b] below meth c H locs (cells + 3 + 0 + 0) (slots + 18 + 0 + 0) Q (F0 m 1132 ls []) := by
    refine lv_goto (tgt := 2075) C.hx C.hb dL_law_1132 (by decide) ?_
    refine W.widen (k := cells + 450) (n := slots + 6200) (by omega) (by omega) ?_
    exact kk _ _ _ w _ _ _ _ ls hL (RS.of hP rfl rfl rfl rfl hR.t4 hR.cap) hS hmq (lv_sub hl [2, 3, 4, 5, 6] rfl)
  refine lv_iload C.hx C.hb dL_law_1115 (lv_at hl 1 rfl) ?_
  refine lv_if_ne (tgt := 1132) C.hx C.hb dL_law_1117 (by decide) (fun _ => K) (fun hz => ?_)
  have hc0 : (fX6_cup g (xs (nI (i + 1)).toNatClampNeg) (xs (nI (i + 2)).toNatClampNeg)).1 = 0 := by
    rcases hcd with h | h | h
    · exact h
    · exact absurd (show (k13 (fX6_cup g (xs (nI (i + 1)).toNatClampNeg) (xs (nI (i + 2)).toNatClampNeg)).1) = 0 from Classical.byContradiction (fun q => by first | exact hz q | exact q hz)) (by rw [h.1]; decide)
    · exact absurd (show (k13 (fX6_cup g (xs (nI (i + 1)).toNatClampNeg) (xs (nI (i + 2)).toNatClampNeg)).1) = 0 from Classical.byContradiction (fun q => by first | exact hz q | exact q hz)) (by rw [h.1]; decide)
  refine lv_aload_n C.hx C.hb dL_law_1120 rfl (lv_at hl 6 rfl) ?_
  refine lv_iconst (v := 0) C.hx C.hb dL_law_1121 (by decide) ?_
  refine l_lald C.hx C.hb hB hL dL_law_1122 ?_
  refine l_val (v := (fX7_cup (w 0 0) (w 0 1) (w 0 2) (w 0 3) (w 0 4) mm (xs (nI (i + 1)).toNatClampNeg) (xs (nI (i + 2)).toNatClampNeg)).1.toInt64) (by rw [if_pos hc0]; exact congrArg Int32.toInt64 (hP.2.1 hc0)) ?_
  refine lv_iload C.hx C.hb dL_law_1123 (lv_at hl 0 rfl) ?_
  refine lv_i2l C.hx C.hb dL_law_1125 rfl ?_
  refine W.lcmp C.hx C.hb dL_law_1126 ?_
  refine lv_if_eq (tgt := 1132) C.hx C.hb dL_law_1127 (by decide) (fun _ => K) (fun c => absurd (lcmp_self _) c)
set_option maxRecDepth 100000 in
set_option maxHeartbeats 4000000 in
theorem op_blend (C : LC p l s m c b L xs) (hI : cI ad) (hB : LWB D cy e0 s) (hL : LWS D cy ad o e0 s g vo bd w mm SS H) (hR : RS g mm w) (hS : va_S (LA0 s) s.heap H locs) (hmq : bd 0 0 = mq) (hi : i + 5 ≤ L) (hc : cells + 450 ≤ 400000) (hs : slots + 6200 ≤ 4000000) (hl : lv_has ls 9 [(4, .int (nI i)), (0, .ref b), (1, .ref (ad 0 0)), (2, .ref mq), (3, .ref o)])
    (kk : ∀ (g2 : Gd) (v2 : Int64) (bd2 w2 : Nat → Nat → Nat) (m2 : Md) (S2 : Int64) (H1 : Heap) (locs1 : List Loc) (ls1 : Array Slot), LWS D cy ad o e0 s g2 v2 bd2 w2 m2 S2 H1 → RS g2 m2 w2 → va_S (LA0 s) s.heap H1 locs1 → bd2 0 0 = mq → lv_has ls1 9 [(4, .int (nI i)), (0, .ref b), (1, .ref (ad 0 0)), (2, .ref mq), (3, .ref o)] → W p l e room_1 s m #[Value.ref b] below meth c H1 locs1 (cells + 450) (slots + 6200) Q (F0 m 2075 ls1 [])) :
    W p l e room_1 s m #[Value.ref b] below meth c H locs cells slots Q (F0 m 1135 ls []) := by
  have hI0 := hI
  have hl0 := C.st
  have hP : Ok (w 0 0) (w 0 1) (w 0 2) (w 0 3) (k12 (fX6_blend g (xs (nI (i + 1)).toNatClampNeg) (xs (nI (i + 2)).toNatClampNeg)).1) (fX6_blend g (xs (nI (i + 1)).toNatClampNeg) (xs (nI (i + 2)).toNatClampNeg)).1 (fX6_blend g (xs (nI (i + 1)).toNatClampNeg) (xs (nI (i + 2)).toNatClampNeg)).2.1 (fX6_blend g (xs (nI (i + 1)).toNatClampNeg) (xs (nI (i + 2)).toNatClampNeg)).2.2 (fX7_blend (w 0 0) (w 0 1) (w 0 2) (w 0 3) (w 0 4) mm (xs (nI (i + 1)).toNatClampNeg) (xs (nI (i + 2)).toNatClampNeg)).1 (fX7_blend (w 0 0) (w 0 1) (w 0 2) (w 0 3) (w 0 4) mm (xs (nI (i + 1)).toNatClampNeg) (xs (nI (i + 2)).toNatClampNeg)).2 := by rw [hR.t4]; exact P_blend hR.R hR.I hR.T (xs (nI (i + 1)).toNatClampNeg) (xs (nI (i + 2)).toNatClampNeg)
  have hcd := cd_blend g (xs (nI (i + 1)).toNatClampNeg) (xs (nI (i + 2)).toNatClampNeg)
  have hv : IvC g := ivC_of hR.R hR.I hR.T
  have hLL := C.le
  refine lv_aload_n C.hx C.hb dL_law_1135 rfl (lv_at hl 2 rfl) ?_
  refine lv_aload_n C.hx C.hb dL_law_1136 rfl (lv_at hl 1 rfl) ?_
  refine lv_iload C.hx C.hb dL_law_1137 (lv_at hl 0 rfl) ?_
  refine lv_iconst (v := 1) C.hx C.hb dL_law_1139 (by decide) ?_
  refine lv_iadd C.hx C.hb dL_law_1140 ?_
  refine q_val (v := nI (i + 1)) (nI_add i 1) ?_
  refine va_sld C.hx C.hb C.X C.bl (LA0_no C.bl) hS (vp_in_nI (by omega) (by have := C.le; omega)) dL_law_1141 ?_
  refine lv_aload_n C.hx C.hb dL_law_1142 rfl (lv_at hl 1 rfl) ?_
  refine lv_iload C.hx C.hb dL_law_1143 (lv_at hl 0 rfl) ?_
  refine lv_iconst (v := 2) C.hx C.hb dL_law_1145 (by decide) ?_
  refine lv_iadd C.hx C.hb dL_law_1146 ?_
  refine q_val (v := nI (i + 2)) (nI_add i 2) ?_
  refine va_sld C.hx C.hb C.X C.bl (LA0_no C.bl) hS (vp_in_nI (by omega) (by have := C.le; omega)) dL_law_1147 ?_
  refine lv_aload_n C.hx C.hb dL_law_1148 rfl (lv_at hl 4 rfl) ?_
  refine l_callO (g2 := (fX6_blend g (xs (nI (i + 1)).toNatClampNeg) (xs (nI (i + 2)).toNatClampNeg)).2.2) (v2 := (if (fX6_blend g (xs (nI (i + 1)).toNatClampNeg) (xs (nI (i + 2)).toNatClampNeg)).1 = 0 then (fX6_blend g (xs (nI (i + 1)).toNatClampNeg) (xs (nI (i + 2)).toNatClampNeg)).2.1.toInt64 else vo)) (kv := (k12 (fX6_blend g (xs (nI (i + 1)).toNatClampNeg) (xs (nI (i + 2)).toNatClampNeg)).1)) (As := [.ref (ad 0 0), .int (xs (nI (i + 1)).toNatClampNeg), .int (xs (nI (i + 2)).toNatClampNeg), .ref o]) (rest := []) ⟨C.hx, C.hb, C.ml, C.own, C.ts⟩ (kL_blend l D cy hI hl0 g o vo _ (xs (nI (i + 1)).toNatClampNeg) (xs (nI (i + 2)).toNatClampNeg) hv) (vx_cwSW 4 C.ts gL_law_L_blend rfl rfl rfl (by decide +kernel) ⟨Nat.le_of_ble_eq_true rfl, Nat.le_of_ble_eq_true rfl⟩) hB hL hS rfl hl.1 (Nat.le_of_ble_eq_true rfl) dL_law_1149 ⟨by refine Nat.le_trans (m := 400000) ?_ rc_c; show cells + _ ≤ 400000; omega, by refine Nat.le_trans (m := 4000000) ?_ rc_s; show slots + _ ≤ 4000000; omega⟩ (fun H locs hL hS => ?_)
  refine lv_istore (lv' := [(5, .int (k12 (fX6_blend g (xs (nI (i + 1)).toNatClampNeg) (xs (nI (i + 2)).toNatClampNeg)).1)), (4, .int (nI i)), (0, .ref b), (1, .ref (ad 0 0)), (2, .ref mq), (3, .ref o)]) C.hx C.hb dL_law_1152 hl (by decide) rfl (fun ls hl => ?_)
  refine lv_aload_n C.hx C.hb dL_law_1154 rfl (lv_at hl 4 rfl) ?_
  refine lv_aload_n C.hx C.hb dL_law_1155 rfl (lv_at hl 2 rfl) ?_
  refine lv_iload C.hx C.hb dL_law_1156 (lv_at hl 1 rfl) ?_
  refine lv_iconst (v := 1) C.hx C.hb dL_law_1158 (by decide) ?_
  refine lv_iadd C.hx C.hb dL_law_1159 ?_
  refine q_val (v := nI (i + 1)) (nI_add i 1) ?_
  refine va_sld C.hx C.hb C.X C.bl (LA0_no C.bl) hS (vp_in_nI (by omega) (by have := C.le; omega)) dL_law_1160 ?_
  refine lv_aload_n C.hx C.hb dL_law_1161 rfl (lv_at hl 2 rfl) ?_
  refine lv_iload C.hx C.hb dL_law_1162 (lv_at hl 1 rfl) ?_
  refine lv_iconst (v := 2) C.hx C.hb dL_law_1164 (by decide) ?_
  refine lv_iadd C.hx C.hb dL_law_1165 ?_
  refine q_val (v := nI (i + 2)) (nI_add i 2) ?_
  refine va_sld C.hx C.hb C.X C.bl (LA0_no C.bl) hS (vp_in_nI (by omega) (by have := C.le; omega)) dL_law_1166 ?_
  refine l_callG (v := (fX7_blend (w 0 0) (w 0 1) (w 0 2) (w 0 3) (w 0 4) mm (xs (nI (i + 1)).toNatClampNeg) (xs (nI (i + 2)).toNatClampNeg)).1) (m2 := (fX7_blend (w 0 0) (w 0 1) (w 0 2) (w 0 3) (w 0 4) mm (xs (nI (i + 1)).toNatClampNeg) (xs (nI (i + 2)).toNatClampNeg)).2) (w2 := w) hmq (As := [.int (xs (nI (i + 1)).toNatClampNeg), .int (xs (nI (i + 2)).toNatClampNeg)]) (rest := []) ⟨C.hx, C.hb, C.ml, C.own, C.ts⟩ (mX7_blend l D cy e0 mm SS _ (xs (nI (i + 1)).toNatClampNeg) (xs (nI (i + 2)).toNatClampNeg) hR.I hR.t4 hR.cap) (cwV 2 C.ts gL_law_X7_blend rfl rfl rfl (by decide +kernel) ⟨Nat.le_of_ble_eq_true rfl, Nat.le_of_ble_eq_true rfl⟩) hB hL hS rfl hl.1 (Nat.le_of_ble_eq_true rfl) dL_law_1167 ⟨by refine Nat.le_trans (m := 400000) ?_ rc_c; show cells + _ + _ ≤ 400000; omega, by refine Nat.le_trans (m := 4000000) ?_ rc_s; show slots + _ + _ ≤ 4000000; omega⟩ (fun bd2 H locs hmq hL hS => ?_)
  refine lv_istore (lv' := [(6, .int (fX7_blend (w 0 0) (w 0 1) (w 0 2) (w 0 3) (w 0 4) mm (xs (nI (i + 1)).toNatClampNeg) (xs (nI (i + 2)).toNatClampNeg)).1), (5, .int (k12 (fX6_blend g (xs (nI (i + 1)).toNatClampNeg) (xs (nI (i + 2)).toNatClampNeg)).1)), (4, .int (nI i)), (0, .ref b), (1, .ref (ad 0 0)), (2, .ref mq), (3, .ref o)]) C.hx C.hb dL_law_1170 hl (by decide) rfl (fun ls hl => ?_)
  refine lv_aload_n C.hx C.hb dL_law_1172 rfl (lv_at hl 5 rfl) ?_
  refine l_callMi (v := (fX7_blend (w 0 0) (w 0 1) (w 0 2) (w 0 3) (w 0 4) mm (xs (nI (i + 1)).toNatClampNeg) (xs (nI (i + 2)).toNatClampNeg)).2 0 20) (m2 := (fX7_blend (w 0 0) (w 0 1) (w 0 2) (w 0 3) (w 0 4) mm (xs (nI (i + 1)).toNatClampNeg) (xs (nI (i + 2)).toNatClampNeg)).2) (S2 := SS) hmq (As := []) (rest := []) ⟨C.hx, C.hb, C.ml, C.own, C.ts⟩ (kX7_thrown l D cy e0 (fX7_blend (w 0 0) (w 0 1) (w 0 2) (w 0 3) (w 0 4) mm (xs (nI (i + 1)).toNatClampNeg) (xs (nI (i + 2)).toNatClampNeg)).2 SS _) (cwV 0 C.ts gL_law_X7_thrown rfl rfl rfl (by decide +kernel) ⟨Nat.le_of_ble_eq_true rfl, Nat.le_of_ble_eq_true rfl⟩) hB hL hS rfl hl.1 (Nat.le_of_ble_eq_true rfl) dL_law_1173 ⟨by refine Nat.le_trans (m := 400000) ?_ rc_c; show cells + _ + _ + _ ≤ 400000; omega, by refine Nat.le_trans (m := 4000000) ?_ rc_s; show slots + _ + _ + _ ≤ 4000000; omega⟩ (fun H locs hL hS => ?_)
  refine lv_iload C.hx C.hb dL_law_1176 (lv_at hl 1 rfl) ?_
  refine lv_icmp_eq (tgt := 1183) C.hx C.hb dL_law_1178 (by decide) (fun _ => ?_) (fun c => absurd hP.1 c)
  have K : W p l e room_1 s m #[Value.ref b] below meth c H locs (cells + 3 + 1 + 0) (slots + 18 + 23 + 0) Q (F0 m 1200 ls []) := by
    refine lv_goto (tgt := 2075) C.hx C.hb dL_law_1200 (by decide) ?_
    refine W.widen (k := cells + 450) (n := slots + 6200) (by omega) (by omega) ?_
    exact kk _ _ _ w _ _ _ _ ls hL (RS.of hP rfl rfl rfl rfl hR.t4 hR.cap) hS hmq (lv_sub hl [2, 3, 4, 5, 6] rfl)
  refine lv_iload C.hx C.hb dL_law_1183 (lv_at hl 1 rfl) ?_
  refine lv_if_ne (tgt := 1200) C.hx C.hb dL_law_1185 (by decide) (fun _ => K) (fun hz => ?_)
  have hc0 : (fX6_blend g (xs (nI (i + 1)).toNatClampNeg) (xs (nI (i + 2)).toNatClampNeg)).1 = 0 := by
    rcases hcd with h | h | h | h
    · exact h
    · exact absurd (show (k12 (fX6_blend g (xs (nI (i + 1)).toNatClampNeg) (xs (nI (i + 2)).toNatClampNeg)).1) = 0 from Classical.byContradiction (fun q => by first | exact hz q | exact q hz)) (by rw [h.1]; decide)
    · exact absurd (show (k12 (fX6_blend g (xs (nI (i + 1)).toNatClampNeg) (xs (nI (i + 2)).toNatClampNeg)).1) = 0 from Classical.byContradiction (fun q => by first | exact hz q | exact q hz)) (by rw [h.1]; decide)
    · exact absurd (show (k12 (fX6_blend g (xs (nI (i + 1)).toNatClampNeg) (xs (nI (i + 2)).toNatClampNeg)).1) = 0 from Classical.byContradiction (fun q => by first | exact hz q | exact q hz)) (by rw [h.1]; decide)
  refine lv_aload_n C.hx C.hb dL_law_1188 rfl (lv_at hl 6 rfl) ?_
  refine lv_iconst (v := 0) C.hx C.hb dL_law_1189 (by decide) ?_
  refine l_lald C.hx C.hb hB hL dL_law_1190 ?_
  refine l_val (v := (fX7_blend (w 0 0) (w 0 1) (w 0 2) (w 0 3) (w 0 4) mm (xs (nI (i + 1)).toNatClampNeg) (xs (nI (i + 2)).toNatClampNeg)).1.toInt64) (by rw [if_pos hc0]; exact congrArg Int32.toInt64 (hP.2.1 hc0)) ?_
  refine lv_iload C.hx C.hb dL_law_1191 (lv_at hl 0 rfl) ?_
  refine lv_i2l C.hx C.hb dL_law_1193 rfl ?_
  refine W.lcmp C.hx C.hb dL_law_1194 ?_
  refine lv_if_eq (tgt := 1200) C.hx C.hb dL_law_1195 (by decide) (fun _ => K) (fun c => absurd (lcmp_self _) c)
set_option maxRecDepth 100000 in
set_option maxHeartbeats 4000000 in
theorem op_sell (C : LC p l s m c b L xs) (hI : cI ad) (hB : LWB D cy e0 s) (hL : LWS D cy ad o e0 s g vo bd w mm SS H) (hR : RS g mm w) (hS : va_S (LA0 s) s.heap H locs) (hmq : bd 0 0 = mq) (hi : i + 5 ≤ L) (hc : cells + 450 ≤ 400000) (hs : slots + 6200 ≤ 4000000) (hl : lv_has ls 9 [(4, .int (nI i)), (0, .ref b), (1, .ref (ad 0 0)), (2, .ref mq), (3, .ref o)])
    (kk : ∀ (g2 : Gd) (v2 : Int64) (bd2 w2 : Nat → Nat → Nat) (m2 : Md) (S2 : Int64) (H1 : Heap) (locs1 : List Loc) (ls1 : Array Slot), LWS D cy ad o e0 s g2 v2 bd2 w2 m2 S2 H1 → RS g2 m2 w2 → va_S (LA0 s) s.heap H1 locs1 → bd2 0 0 = mq → lv_has ls1 9 [(4, .int (nI i)), (0, .ref b), (1, .ref (ad 0 0)), (2, .ref mq), (3, .ref o)] → W p l e room_1 s m #[Value.ref b] below meth c H1 locs1 (cells + 450) (slots + 6200) Q (F0 m 2075 ls1 [])) :
    W p l e room_1 s m #[Value.ref b] below meth c H locs cells slots Q (F0 m 1203 ls []) := by
  have hI0 := hI
  have hl0 := C.st
  have hP : Ok (w 0 0) (w 0 1) (w 0 2) (w 0 3) (k12 (fX6_sell g (xs (nI (i + 1)).toNatClampNeg) (xs (nI (i + 2)).toNatClampNeg) (if (xs (nI (i + 3)).toNatClampNeg) = 0 then (0 : Int32) else 1)).1) (fX6_sell g (xs (nI (i + 1)).toNatClampNeg) (xs (nI (i + 2)).toNatClampNeg) (if (xs (nI (i + 3)).toNatClampNeg) = 0 then (0 : Int32) else 1)).1 (fX6_sell g (xs (nI (i + 1)).toNatClampNeg) (xs (nI (i + 2)).toNatClampNeg) (if (xs (nI (i + 3)).toNatClampNeg) = 0 then (0 : Int32) else 1)).2.1 (fX6_sell g (xs (nI (i + 1)).toNatClampNeg) (xs (nI (i + 2)).toNatClampNeg) (if (xs (nI (i + 3)).toNatClampNeg) = 0 then (0 : Int32) else 1)).2.2 (fX7_sell (w 0 0) (w 0 1) (w 0 2) (w 0 3) (w 0 4) mm (xs (nI (i + 1)).toNatClampNeg) (xs (nI (i + 2)).toNatClampNeg) (if (xs (nI (i + 3)).toNatClampNeg) = 0 then (0 : Int32) else 1)).1 (fX7_sell (w 0 0) (w 0 1) (w 0 2) (w 0 3) (w 0 4) mm (xs (nI (i + 1)).toNatClampNeg) (xs (nI (i + 2)).toNatClampNeg) (if (xs (nI (i + 3)).toNatClampNeg) = 0 then (0 : Int32) else 1)).2 := by rw [hR.t4]; exact P_sell (T := 0) hR.R hR.I hR.T (xs (nI (i + 1)).toNatClampNeg) (xs (nI (i + 2)).toNatClampNeg) (if (xs (nI (i + 3)).toNatClampNeg) = 0 then (0 : Int32) else 1)
  have hcd := cd_sell g (xs (nI (i + 1)).toNatClampNeg) (xs (nI (i + 2)).toNatClampNeg) (if (xs (nI (i + 3)).toNatClampNeg) = 0 then (0 : Int32) else 1)
  have hv : IvC g := ivC_of hR.R hR.I hR.T
  have hLL := C.le
  refine lv_aload_n C.hx C.hb dL_law_1203 rfl (lv_at hl 2 rfl) ?_
  refine lv_aload_n C.hx C.hb dL_law_1204 rfl (lv_at hl 1 rfl) ?_
  refine lv_iload C.hx C.hb dL_law_1205 (lv_at hl 0 rfl) ?_
  refine lv_iconst (v := 1) C.hx C.hb dL_law_1207 (by decide) ?_
  refine lv_iadd C.hx C.hb dL_law_1208 ?_
  refine q_val (v := nI (i + 1)) (nI_add i 1) ?_
  refine va_sld C.hx C.hb C.X C.bl (LA0_no C.bl) hS (vp_in_nI (by omega) (by have := C.le; omega)) dL_law_1209 ?_
  refine lv_aload_n C.hx C.hb dL_law_1210 rfl (lv_at hl 1 rfl) ?_
  refine lv_iload C.hx C.hb dL_law_1211 (lv_at hl 0 rfl) ?_
  refine lv_iconst (v := 2) C.hx C.hb dL_law_1213 (by decide) ?_
  refine lv_iadd C.hx C.hb dL_law_1214 ?_
  refine q_val (v := nI (i + 2)) (nI_add i 2) ?_
  refine va_sld C.hx C.hb C.X C.bl (LA0_no C.bl) hS (vp_in_nI (by omega) (by have := C.le; omega)) dL_law_1215 ?_
  refine lv_aload_n C.hx C.hb dL_law_1216 rfl (lv_at hl 1 rfl) ?_
  refine lv_iload C.hx C.hb dL_law_1217 (lv_at hl 0 rfl) ?_
  refine lv_iconst (v := 3) C.hx C.hb dL_law_1219 (by decide) ?_
  refine lv_iadd C.hx C.hb dL_law_1220 ?_
  refine q_val (v := nI (i + 3)) (nI_add i 3) ?_
  refine va_sld C.hx C.hb C.X C.bl (LA0_no C.bl) hS (vp_in_nI (by omega) (by have := C.le; omega)) dL_law_1221 ?_
  refine l_bool C.hx C.hb dL_law_1222 dL_law_1225 dL_law_1226 dL_law_1229 ?_
  refine lv_aload_n C.hx C.hb dL_law_1230 rfl (lv_at hl 4 rfl) ?_
  refine l_callO (g2 := (fX6_sell g (xs (nI (i + 1)).toNatClampNeg) (xs (nI (i + 2)).toNatClampNeg) (if (xs (nI (i + 3)).toNatClampNeg) = 0 then (0 : Int32) else 1)).2.2) (v2 := (if (fX6_sell g (xs (nI (i + 1)).toNatClampNeg) (xs (nI (i + 2)).toNatClampNeg) (if (xs (nI (i + 3)).toNatClampNeg) = 0 then (0 : Int32) else 1)).1 = 0 then (fX6_sell g (xs (nI (i + 1)).toNatClampNeg) (xs (nI (i + 2)).toNatClampNeg) (if (xs (nI (i + 3)).toNatClampNeg) = 0 then (0 : Int32) else 1)).2.1.toInt64 else vo)) (kv := (k12 (fX6_sell g (xs (nI (i + 1)).toNatClampNeg) (xs (nI (i + 2)).toNatClampNeg) (if (xs (nI (i + 3)).toNatClampNeg) = 0 then (0 : Int32) else 1)).1)) (As := [.ref (ad 0 0), .int (xs (nI (i + 1)).toNatClampNeg), .int (xs (nI (i + 2)).toNatClampNeg), .int (if (xs (nI (i + 3)).toNatClampNeg) = 0 then (0 : Int32) else 1), .ref o]) (rest := []) ⟨C.hx, C.hb, C.ml, C.own, C.ts⟩ (kL_sell l D cy hI hl0 g o vo _ (xs (nI (i + 1)).toNatClampNeg) (xs (nI (i + 2)).toNatClampNeg) (if (xs (nI (i + 3)).toNatClampNeg) = 0 then (0 : Int32) else 1) hv) (vx_cwSW 5 C.ts gL_law_L_sell rfl rfl rfl (by decide +kernel) ⟨Nat.le_of_ble_eq_true rfl, Nat.le_of_ble_eq_true rfl⟩) hB hL hS rfl hl.1 (Nat.le_of_ble_eq_true rfl) dL_law_1231 ⟨by refine Nat.le_trans (m := 400000) ?_ rc_c; show cells + _ ≤ 400000; omega, by refine Nat.le_trans (m := 4000000) ?_ rc_s; show slots + _ ≤ 4000000; omega⟩ (fun H locs hL hS => ?_)
  refine lv_istore (lv' := [(5, .int (k12 (fX6_sell g (xs (nI (i + 1)).toNatClampNeg) (xs (nI (i + 2)).toNatClampNeg) (if (xs (nI (i + 3)).toNatClampNeg) = 0 then (0 : Int32) else 1)).1)), (4, .int (nI i)), (0, .ref b), (1, .ref (ad 0 0)), (2, .ref mq), (3, .ref o)]) C.hx C.hb dL_law_1234 hl (by decide) rfl (fun ls hl => ?_)
  refine lv_aload_n C.hx C.hb dL_law_1236 rfl (lv_at hl 4 rfl) ?_
  refine lv_aload_n C.hx C.hb dL_law_1237 rfl (lv_at hl 2 rfl) ?_
  refine lv_iload C.hx C.hb dL_law_1238 (lv_at hl 1 rfl) ?_
  refine lv_iconst (v := 1) C.hx C.hb dL_law_1240 (by decide) ?_
  refine lv_iadd C.hx C.hb dL_law_1241 ?_
  refine q_val (v := nI (i + 1)) (nI_add i 1) ?_
  refine va_sld C.hx C.hb C.X C.bl (LA0_no C.bl) hS (vp_in_nI (by omega) (by have := C.le; omega)) dL_law_1242 ?_
  refine lv_aload_n C.hx C.hb dL_law_1243 rfl (lv_at hl 2 rfl) ?_
  refine lv_iload C.hx C.hb dL_law_1244 (lv_at hl 1 rfl) ?_
  refine lv_iconst (v := 2) C.hx C.hb dL_law_1246 (by decide) ?_
  refine lv_iadd C.hx C.hb dL_law_1247 ?_
  refine q_val (v := nI (i + 2)) (nI_add i 2) ?_
  refine va_sld C.hx C.hb C.X C.bl (LA0_no C.bl) hS (vp_in_nI (by omega) (by have := C.le; omega)) dL_law_1248 ?_
  refine lv_aload_n C.hx C.hb dL_law_1249 rfl (lv_at hl 2 rfl) ?_
  refine lv_iload C.hx C.hb dL_law_1250 (lv_at hl 1 rfl) ?_
  refine lv_iconst (v := 3) C.hx C.hb dL_law_1252 (by decide) ?_
  refine lv_iadd C.hx C.hb dL_law_1253 ?_
  refine q_val (v := nI (i + 3)) (nI_add i 3) ?_
  refine va_sld C.hx C.hb C.X C.bl (LA0_no C.bl) hS (vp_in_nI (by omega) (by have := C.le; omega)) dL_law_1254 ?_
  refine l_bool C.hx C.hb dL_law_1255 dL_law_1258 dL_law_1259 dL_law_1262 ?_
  refine l_callMi (v := (fX7_sell (w 0 0) (w 0 1) (w 0 2) (w 0 3) (w 0 4) mm (xs (nI (i + 1)).toNatClampNeg) (xs (nI (i + 2)).toNatClampNeg) (if (xs (nI (i + 3)).toNatClampNeg) = 0 then (0 : Int32) else 1)).1) (m2 := (fX7_sell (w 0 0) (w 0 1) (w 0 2) (w 0 3) (w 0 4) mm (xs (nI (i + 1)).toNatClampNeg) (xs (nI (i + 2)).toNatClampNeg) (if (xs (nI (i + 3)).toNatClampNeg) = 0 then (0 : Int32) else 1)).2) (S2 := SS) hmq (As := [.int (xs (nI (i + 1)).toNatClampNeg), .int (xs (nI (i + 2)).toNatClampNeg), .int (if (xs (nI (i + 3)).toNatClampNeg) = 0 then (0 : Int32) else 1)]) (rest := []) ⟨C.hx, C.hb, C.ml, C.own, C.ts⟩ (mX7_sell l D cy e0 mm SS _ (xs (nI (i + 1)).toNatClampNeg) (xs (nI (i + 2)).toNatClampNeg) (if (xs (nI (i + 3)).toNatClampNeg) = 0 then (0 : Int32) else 1) hR.I hR.t4 hR.cap) (cwV 3 C.ts gL_law_X7_sell rfl rfl rfl (by decide +kernel) ⟨Nat.le_of_ble_eq_true rfl, Nat.le_of_ble_eq_true rfl⟩) hB hL hS rfl hl.1 (Nat.le_of_ble_eq_true rfl) dL_law_1263 ⟨by refine Nat.le_trans (m := 400000) ?_ rc_c; show cells + _ + _ ≤ 400000; omega, by refine Nat.le_trans (m := 4000000) ?_ rc_s; show slots + _ + _ ≤ 4000000; omega⟩ (fun H locs hL hS => ?_)
  refine lv_istore (lv' := [(6, .int (fX7_sell (w 0 0) (w 0 1) (w 0 2) (w 0 3) (w 0 4) mm (xs (nI (i + 1)).toNatClampNeg) (xs (nI (i + 2)).toNatClampNeg) (if (xs (nI (i + 3)).toNatClampNeg) = 0 then (0 : Int32) else 1)).1), (5, .int (k12 (fX6_sell g (xs (nI (i + 1)).toNatClampNeg) (xs (nI (i + 2)).toNatClampNeg) (if (xs (nI (i + 3)).toNatClampNeg) = 0 then (0 : Int32) else 1)).1)), (4, .int (nI i)), (0, .ref b), (1, .ref (ad 0 0)), (2, .ref mq), (3, .ref o)]) C.hx C.hb dL_law_1266 hl (by decide) rfl (fun ls hl => ?_)
  refine lv_aload_n C.hx C.hb dL_law_1268 rfl (lv_at hl 5 rfl) ?_
  refine l_callMi (v := (fX7_sell (w 0 0) (w 0 1) (w 0 2) (w 0 3) (w 0 4) mm (xs (nI (i + 1)).toNatClampNeg) (xs (nI (i + 2)).toNatClampNeg) (if (xs (nI (i + 3)).toNatClampNeg) = 0 then (0 : Int32) else 1)).2 0 20) (m2 := (fX7_sell (w 0 0) (w 0 1) (w 0 2) (w 0 3) (w 0 4) mm (xs (nI (i + 1)).toNatClampNeg) (xs (nI (i + 2)).toNatClampNeg) (if (xs (nI (i + 3)).toNatClampNeg) = 0 then (0 : Int32) else 1)).2) (S2 := SS) hmq (As := []) (rest := []) ⟨C.hx, C.hb, C.ml, C.own, C.ts⟩ (kX7_thrown l D cy e0 (fX7_sell (w 0 0) (w 0 1) (w 0 2) (w 0 3) (w 0 4) mm (xs (nI (i + 1)).toNatClampNeg) (xs (nI (i + 2)).toNatClampNeg) (if (xs (nI (i + 3)).toNatClampNeg) = 0 then (0 : Int32) else 1)).2 SS _) (cwV 0 C.ts gL_law_X7_thrown rfl rfl rfl (by decide +kernel) ⟨Nat.le_of_ble_eq_true rfl, Nat.le_of_ble_eq_true rfl⟩) hB hL hS rfl hl.1 (Nat.le_of_ble_eq_true rfl) dL_law_1269 ⟨by refine Nat.le_trans (m := 400000) ?_ rc_c; show cells + _ + _ + _ ≤ 400000; omega, by refine Nat.le_trans (m := 4000000) ?_ rc_s; show slots + _ + _ + _ ≤ 4000000; omega⟩ (fun H locs hL hS => ?_)
  refine lv_iload C.hx C.hb dL_law_1272 (lv_at hl 1 rfl) ?_
  refine lv_icmp_eq (tgt := 1279) C.hx C.hb dL_law_1274 (by decide) (fun _ => ?_) (fun c => absurd hP.1 c)
  have K : W p l e room_1 s m #[Value.ref b] below meth c H locs (cells + 2 + 0 + 0) (slots + 12 + 0 + 0) Q (F0 m 1296 ls []) := by
    refine lv_goto (tgt := 2075) C.hx C.hb dL_law_1296 (by decide) ?_
    refine W.widen (k := cells + 450) (n := slots + 6200) (by omega) (by omega) ?_
    exact kk _ _ _ w _ _ _ _ ls hL (RS.of hP rfl rfl rfl rfl hR.t4 hR.cap) hS hmq (lv_sub hl [2, 3, 4, 5, 6] rfl)
  refine lv_iload C.hx C.hb dL_law_1279 (lv_at hl 1 rfl) ?_
  refine lv_if_ne (tgt := 1296) C.hx C.hb dL_law_1281 (by decide) (fun _ => K) (fun hz => ?_)
  have hc0 : (fX6_sell g (xs (nI (i + 1)).toNatClampNeg) (xs (nI (i + 2)).toNatClampNeg) (if (xs (nI (i + 3)).toNatClampNeg) = 0 then (0 : Int32) else 1)).1 = 0 := by
    rcases hcd with h | h | h | h
    · exact h
    · exact absurd (show (k12 (fX6_sell g (xs (nI (i + 1)).toNatClampNeg) (xs (nI (i + 2)).toNatClampNeg) (if (xs (nI (i + 3)).toNatClampNeg) = 0 then (0 : Int32) else 1)).1) = 0 from Classical.byContradiction (fun q => by first | exact hz q | exact q hz)) (by rw [h.1]; decide)
    · exact absurd (show (k12 (fX6_sell g (xs (nI (i + 1)).toNatClampNeg) (xs (nI (i + 2)).toNatClampNeg) (if (xs (nI (i + 3)).toNatClampNeg) = 0 then (0 : Int32) else 1)).1) = 0 from Classical.byContradiction (fun q => by first | exact hz q | exact q hz)) (by rw [h.1]; decide)
    · exact absurd (show (k12 (fX6_sell g (xs (nI (i + 1)).toNatClampNeg) (xs (nI (i + 2)).toNatClampNeg) (if (xs (nI (i + 3)).toNatClampNeg) = 0 then (0 : Int32) else 1)).1) = 0 from Classical.byContradiction (fun q => by first | exact hz q | exact q hz)) (by rw [h.1]; decide)
  refine lv_aload_n C.hx C.hb dL_law_1284 rfl (lv_at hl 6 rfl) ?_
  refine lv_iconst (v := 0) C.hx C.hb dL_law_1285 (by decide) ?_
  refine l_lald C.hx C.hb hB hL dL_law_1286 ?_
  refine l_val (v := (fX7_sell (w 0 0) (w 0 1) (w 0 2) (w 0 3) (w 0 4) mm (xs (nI (i + 1)).toNatClampNeg) (xs (nI (i + 2)).toNatClampNeg) (if (xs (nI (i + 3)).toNatClampNeg) = 0 then (0 : Int32) else 1)).1.toInt64) (by rw [if_pos hc0]; exact congrArg Int32.toInt64 (hP.2.1 hc0)) ?_
  refine lv_iload C.hx C.hb dL_law_1287 (lv_at hl 0 rfl) ?_
  refine lv_i2l C.hx C.hb dL_law_1289 rfl ?_
  refine W.lcmp C.hx C.hb dL_law_1290 ?_
  refine lv_if_eq (tgt := 1296) C.hx C.hb dL_law_1291 (by decide) (fun _ => K) (fun c => absurd (lcmp_self _) c)
set_option maxRecDepth 100000 in
set_option maxHeartbeats 4000000 in
theorem op_ofFarm (C : LC p l s m c b L xs) (hI : cI ad) (hB : LWB D cy e0 s) (hL : LWS D cy ad o e0 s g vo bd w mm SS H) (hR : RS g mm w) (hS : va_S (LA0 s) s.heap H locs) (hmq : bd 0 0 = mq) (hi : i + 5 ≤ L) (hc : cells + 450 ≤ 400000) (hs : slots + 6200 ≤ 4000000) (hl : lv_has ls 9 [(4, .int (nI i)), (0, .ref b), (1, .ref (ad 0 0)), (2, .ref mq), (3, .ref o)])
    (kk : ∀ (g2 : Gd) (v2 : Int64) (bd2 w2 : Nat → Nat → Nat) (m2 : Md) (S2 : Int64) (H1 : Heap) (locs1 : List Loc) (ls1 : Array Slot), LWS D cy ad o e0 s g2 v2 bd2 w2 m2 S2 H1 → RS g2 m2 w2 → va_S (LA0 s) s.heap H1 locs1 → bd2 0 0 = mq → lv_has ls1 9 [(4, .int (nI i)), (0, .ref b), (1, .ref (ad 0 0)), (2, .ref mq), (3, .ref o)] → W p l e room_1 s m #[Value.ref b] below meth c H1 locs1 (cells + 450) (slots + 6200) Q (F0 m 2075 ls1 [])) :
    W p l e room_1 s m #[Value.ref b] below meth c H locs cells slots Q (F0 m 1299 ls []) := by
  have hI0 := hI
  have hl0 := C.st
  have hP : Ok (w 0 0) (w 0 1) (w 0 2) (w 0 3) (k12 (fX6_ofFarm g (xs (nI (i + 1)).toNatClampNeg) (xs (nI (i + 2)).toNatClampNeg)).1) (fX6_ofFarm g (xs (nI (i + 1)).toNatClampNeg) (xs (nI (i + 2)).toNatClampNeg)).1 (fX6_ofFarm g (xs (nI (i + 1)).toNatClampNeg) (xs (nI (i + 2)).toNatClampNeg)).2 g (fX7_ofFarm (w 0 0) (w 0 1) (w 0 2) (w 0 3) (w 0 4) mm (xs (nI (i + 1)).toNatClampNeg) (xs (nI (i + 2)).toNatClampNeg)).1 (fX7_ofFarm (w 0 0) (w 0 1) (w 0 2) (w 0 3) (w 0 4) mm (xs (nI (i + 1)).toNatClampNeg) (xs (nI (i + 2)).toNatClampNeg)).2 := by rw [hR.t4]; exact P_ofFarm (T := 0) hR.R hR.I hR.T (xs (nI (i + 1)).toNatClampNeg) (xs (nI (i + 2)).toNatClampNeg)
  have hcd := cd_ofFarm g (xs (nI (i + 1)).toNatClampNeg) (xs (nI (i + 2)).toNatClampNeg)
  have hv : IvC g := ivC_of hR.R hR.I hR.T
  have hLL := C.le
  refine lv_aload_n C.hx C.hb dL_law_1299 rfl (lv_at hl 2 rfl) ?_
  refine lv_aload_n C.hx C.hb dL_law_1300 rfl (lv_at hl 1 rfl) ?_
  refine lv_iload C.hx C.hb dL_law_1301 (lv_at hl 0 rfl) ?_
  refine lv_iconst (v := 1) C.hx C.hb dL_law_1303 (by decide) ?_
  refine lv_iadd C.hx C.hb dL_law_1304 ?_
  refine q_val (v := nI (i + 1)) (nI_add i 1) ?_
  refine va_sld C.hx C.hb C.X C.bl (LA0_no C.bl) hS (vp_in_nI (by omega) (by have := C.le; omega)) dL_law_1305 ?_
  refine lv_aload_n C.hx C.hb dL_law_1306 rfl (lv_at hl 1 rfl) ?_
  refine lv_iload C.hx C.hb dL_law_1307 (lv_at hl 0 rfl) ?_
  refine lv_iconst (v := 2) C.hx C.hb dL_law_1309 (by decide) ?_
  refine lv_iadd C.hx C.hb dL_law_1310 ?_
  refine q_val (v := nI (i + 2)) (nI_add i 2) ?_
  refine va_sld C.hx C.hb C.X C.bl (LA0_no C.bl) hS (vp_in_nI (by omega) (by have := C.le; omega)) dL_law_1311 ?_
  refine lv_aload_n C.hx C.hb dL_law_1312 rfl (lv_at hl 4 rfl) ?_
  refine l_callO (g2 := g) (v2 := (if (fX6_ofFarm g (xs (nI (i + 1)).toNatClampNeg) (xs (nI (i + 2)).toNatClampNeg)).1 = 0 then (fX6_ofFarm g (xs (nI (i + 1)).toNatClampNeg) (xs (nI (i + 2)).toNatClampNeg)).2.toInt64 else vo)) (kv := (k12 (fX6_ofFarm g (xs (nI (i + 1)).toNatClampNeg) (xs (nI (i + 2)).toNatClampNeg)).1)) (As := [.ref (ad 0 0), .int (xs (nI (i + 1)).toNatClampNeg), .int (xs (nI (i + 2)).toNatClampNeg), .ref o]) (rest := []) ⟨C.hx, C.hb, C.ml, C.own, C.ts⟩ (kL_ofFarm l D cy hI hl0 g o vo _ (xs (nI (i + 1)).toNatClampNeg) (xs (nI (i + 2)).toNatClampNeg) hv) (vx_cwSW 4 C.ts gL_law_L_ofFarm rfl rfl rfl (by decide +kernel) ⟨Nat.le_of_ble_eq_true rfl, Nat.le_of_ble_eq_true rfl⟩) hB hL hS rfl hl.1 (Nat.le_of_ble_eq_true rfl) dL_law_1313 ⟨by refine Nat.le_trans (m := 400000) ?_ rc_c; show cells + _ ≤ 400000; omega, by refine Nat.le_trans (m := 4000000) ?_ rc_s; show slots + _ ≤ 4000000; omega⟩ (fun H locs hL hS => ?_)
  refine lv_istore (lv' := [(5, .int (k12 (fX6_ofFarm g (xs (nI (i + 1)).toNatClampNeg) (xs (nI (i + 2)).toNatClampNeg)).1)), (4, .int (nI i)), (0, .ref b), (1, .ref (ad 0 0)), (2, .ref mq), (3, .ref o)]) C.hx C.hb dL_law_1316 hl (by decide) rfl (fun ls hl => ?_)
  refine lv_aload_n C.hx C.hb dL_law_1318 rfl (lv_at hl 4 rfl) ?_
  refine lv_aload_n C.hx C.hb dL_law_1319 rfl (lv_at hl 2 rfl) ?_
  refine lv_iload C.hx C.hb dL_law_1320 (lv_at hl 1 rfl) ?_
  refine lv_iconst (v := 1) C.hx C.hb dL_law_1322 (by decide) ?_
  refine lv_iadd C.hx C.hb dL_law_1323 ?_
  refine q_val (v := nI (i + 1)) (nI_add i 1) ?_
  refine va_sld C.hx C.hb C.X C.bl (LA0_no C.bl) hS (vp_in_nI (by omega) (by have := C.le; omega)) dL_law_1324 ?_
  refine lv_aload_n C.hx C.hb dL_law_1325 rfl (lv_at hl 2 rfl) ?_
  refine lv_iload C.hx C.hb dL_law_1326 (lv_at hl 1 rfl) ?_
  refine lv_iconst (v := 2) C.hx C.hb dL_law_1328 (by decide) ?_
  refine lv_iadd C.hx C.hb dL_law_1329 ?_
  refine q_val (v := nI (i + 2)) (nI_add i 2) ?_
  refine va_sld C.hx C.hb C.X C.bl (LA0_no C.bl) hS (vp_in_nI (by omega) (by have := C.le; omega)) dL_law_1330 ?_
  refine l_callMi (v := (fX7_ofFarm (w 0 0) (w 0 1) (w 0 2) (w 0 3) (w 0 4) mm (xs (nI (i + 1)).toNatClampNeg) (xs (nI (i + 2)).toNatClampNeg)).1) (m2 := (fX7_ofFarm (w 0 0) (w 0 1) (w 0 2) (w 0 3) (w 0 4) mm (xs (nI (i + 1)).toNatClampNeg) (xs (nI (i + 2)).toNatClampNeg)).2) (S2 := SS) hmq (As := [.int (xs (nI (i + 1)).toNatClampNeg), .int (xs (nI (i + 2)).toNatClampNeg)]) (rest := []) ⟨C.hx, C.hb, C.ml, C.own, C.ts⟩ (mX7_ofFarm l D cy e0 mm SS _ (xs (nI (i + 1)).toNatClampNeg) (xs (nI (i + 2)).toNatClampNeg) hR.I hR.t4 hR.cap) (cwV 2 C.ts gL_law_X7_ofFarm rfl rfl rfl (by decide +kernel) ⟨Nat.le_of_ble_eq_true rfl, Nat.le_of_ble_eq_true rfl⟩) hB hL hS rfl hl.1 (Nat.le_of_ble_eq_true rfl) dL_law_1331 ⟨by refine Nat.le_trans (m := 400000) ?_ rc_c; show cells + _ + _ ≤ 400000; omega, by refine Nat.le_trans (m := 4000000) ?_ rc_s; show slots + _ + _ ≤ 4000000; omega⟩ (fun H locs hL hS => ?_)
  refine lv_istore (lv' := [(6, .int (fX7_ofFarm (w 0 0) (w 0 1) (w 0 2) (w 0 3) (w 0 4) mm (xs (nI (i + 1)).toNatClampNeg) (xs (nI (i + 2)).toNatClampNeg)).1), (5, .int (k12 (fX6_ofFarm g (xs (nI (i + 1)).toNatClampNeg) (xs (nI (i + 2)).toNatClampNeg)).1)), (4, .int (nI i)), (0, .ref b), (1, .ref (ad 0 0)), (2, .ref mq), (3, .ref o)]) C.hx C.hb dL_law_1334 hl (by decide) rfl (fun ls hl => ?_)
  refine lv_aload_n C.hx C.hb dL_law_1336 rfl (lv_at hl 5 rfl) ?_
  refine l_callMi (v := (fX7_ofFarm (w 0 0) (w 0 1) (w 0 2) (w 0 3) (w 0 4) mm (xs (nI (i + 1)).toNatClampNeg) (xs (nI (i + 2)).toNatClampNeg)).2 0 20) (m2 := (fX7_ofFarm (w 0 0) (w 0 1) (w 0 2) (w 0 3) (w 0 4) mm (xs (nI (i + 1)).toNatClampNeg) (xs (nI (i + 2)).toNatClampNeg)).2) (S2 := SS) hmq (As := []) (rest := []) ⟨C.hx, C.hb, C.ml, C.own, C.ts⟩ (kX7_thrown l D cy e0 (fX7_ofFarm (w 0 0) (w 0 1) (w 0 2) (w 0 3) (w 0 4) mm (xs (nI (i + 1)).toNatClampNeg) (xs (nI (i + 2)).toNatClampNeg)).2 SS _) (cwV 0 C.ts gL_law_X7_thrown rfl rfl rfl (by decide +kernel) ⟨Nat.le_of_ble_eq_true rfl, Nat.le_of_ble_eq_true rfl⟩) hB hL hS rfl hl.1 (Nat.le_of_ble_eq_true rfl) dL_law_1337 ⟨by refine Nat.le_trans (m := 400000) ?_ rc_c; show cells + _ + _ + _ ≤ 400000; omega, by refine Nat.le_trans (m := 4000000) ?_ rc_s; show slots + _ + _ + _ ≤ 4000000; omega⟩ (fun H locs hL hS => ?_)
  refine lv_iload C.hx C.hb dL_law_1340 (lv_at hl 1 rfl) ?_
  refine lv_icmp_eq (tgt := 1347) C.hx C.hb dL_law_1342 (by decide) (fun _ => ?_) (fun c => absurd hP.1 c)
  have K : W p l e room_1 s m #[Value.ref b] below meth c H locs (cells + 2 + 1 + 0) (slots + 12 + 4 + 0) Q (F0 m 1364 ls []) := by
    refine lv_goto (tgt := 2075) C.hx C.hb dL_law_1364 (by decide) ?_
    refine W.widen (k := cells + 450) (n := slots + 6200) (by omega) (by omega) ?_
    exact kk _ _ _ w _ _ _ _ ls hL (RS.of hP rfl rfl rfl rfl hR.t4 hR.cap) hS hmq (lv_sub hl [2, 3, 4, 5, 6] rfl)
  refine lv_iload C.hx C.hb dL_law_1347 (lv_at hl 1 rfl) ?_
  refine lv_if_ne (tgt := 1364) C.hx C.hb dL_law_1349 (by decide) (fun _ => K) (fun hz => ?_)
  have hc0 : (fX6_ofFarm g (xs (nI (i + 1)).toNatClampNeg) (xs (nI (i + 2)).toNatClampNeg)).1 = 0 := by
    rcases hcd with h | h | h
    · exact h
    · exact absurd (show (k12 (fX6_ofFarm g (xs (nI (i + 1)).toNatClampNeg) (xs (nI (i + 2)).toNatClampNeg)).1) = 0 from Classical.byContradiction (fun q => by first | exact hz q | exact q hz)) (by rw [h]; decide)
    · exact absurd (show (k12 (fX6_ofFarm g (xs (nI (i + 1)).toNatClampNeg) (xs (nI (i + 2)).toNatClampNeg)).1) = 0 from Classical.byContradiction (fun q => by first | exact hz q | exact q hz)) (by rw [h]; decide)
  refine lv_aload_n C.hx C.hb dL_law_1352 rfl (lv_at hl 6 rfl) ?_
  refine lv_iconst (v := 0) C.hx C.hb dL_law_1353 (by decide) ?_
  refine l_lald C.hx C.hb hB hL dL_law_1354 ?_
  refine l_val (v := (fX7_ofFarm (w 0 0) (w 0 1) (w 0 2) (w 0 3) (w 0 4) mm (xs (nI (i + 1)).toNatClampNeg) (xs (nI (i + 2)).toNatClampNeg)).1.toInt64) (by rw [if_pos hc0]; exact congrArg Int32.toInt64 (hP.2.1 hc0)) ?_
  refine lv_iload C.hx C.hb dL_law_1355 (lv_at hl 0 rfl) ?_
  refine lv_i2l C.hx C.hb dL_law_1357 rfl ?_
  refine W.lcmp C.hx C.hb dL_law_1358 ?_
  refine lv_if_eq (tgt := 1364) C.hx C.hb dL_law_1359 (by decide) (fun _ => K) (fun c => absurd (lcmp_self _) c)
set_option maxRecDepth 100000 in
set_option maxHeartbeats 4000000 in
theorem op_ofBasket (C : LC p l s m c b L xs) (hI : cI ad) (hB : LWB D cy e0 s) (hL : LWS D cy ad o e0 s g vo bd w mm SS H) (hR : RS g mm w) (hS : va_S (LA0 s) s.heap H locs) (hmq : bd 0 0 = mq) (hi : i + 5 ≤ L) (hc : cells + 450 ≤ 400000) (hs : slots + 6200 ≤ 4000000) (hl : lv_has ls 9 [(4, .int (nI i)), (0, .ref b), (1, .ref (ad 0 0)), (2, .ref mq), (3, .ref o)])
    (kk : ∀ (g2 : Gd) (v2 : Int64) (bd2 w2 : Nat → Nat → Nat) (m2 : Md) (S2 : Int64) (H1 : Heap) (locs1 : List Loc) (ls1 : Array Slot), LWS D cy ad o e0 s g2 v2 bd2 w2 m2 S2 H1 → RS g2 m2 w2 → va_S (LA0 s) s.heap H1 locs1 → bd2 0 0 = mq → lv_has ls1 9 [(4, .int (nI i)), (0, .ref b), (1, .ref (ad 0 0)), (2, .ref mq), (3, .ref o)] → W p l e room_1 s m #[Value.ref b] below meth c H1 locs1 (cells + 450) (slots + 6200) Q (F0 m 2075 ls1 [])) :
    W p l e room_1 s m #[Value.ref b] below meth c H locs cells slots Q (F0 m 1367 ls []) := by
  have hI0 := hI
  have hl0 := C.st
  have hP : Ok (w 0 0) (w 0 1) (w 0 2) (w 0 3) (k12 (fX6_ofBasket g (xs (nI (i + 1)).toNatClampNeg) (xs (nI (i + 2)).toNatClampNeg)).1) (fX6_ofBasket g (xs (nI (i + 1)).toNatClampNeg) (xs (nI (i + 2)).toNatClampNeg)).1 (fX6_ofBasket g (xs (nI (i + 1)).toNatClampNeg) (xs (nI (i + 2)).toNatClampNeg)).2 g (fX7_ofBasket (w 0 0) (w 0 1) (w 0 2) (w 0 3) (w 0 4) mm (xs (nI (i + 1)).toNatClampNeg) (xs (nI (i + 2)).toNatClampNeg)).1 (fX7_ofBasket (w 0 0) (w 0 1) (w 0 2) (w 0 3) (w 0 4) mm (xs (nI (i + 1)).toNatClampNeg) (xs (nI (i + 2)).toNatClampNeg)).2 := by rw [hR.t4]; exact P_ofBasket (T := 0) hR.R hR.I hR.T (xs (nI (i + 1)).toNatClampNeg) (xs (nI (i + 2)).toNatClampNeg)
  have hcd := cd_ofBasket g (xs (nI (i + 1)).toNatClampNeg) (xs (nI (i + 2)).toNatClampNeg)
  have hv : IvC g := ivC_of hR.R hR.I hR.T
  have hLL := C.le
  refine lv_aload_n C.hx C.hb dL_law_1367 rfl (lv_at hl 2 rfl) ?_
  refine lv_aload_n C.hx C.hb dL_law_1368 rfl (lv_at hl 1 rfl) ?_
  refine lv_iload C.hx C.hb dL_law_1369 (lv_at hl 0 rfl) ?_
  refine lv_iconst (v := 1) C.hx C.hb dL_law_1371 (by decide) ?_
  refine lv_iadd C.hx C.hb dL_law_1372 ?_
  refine q_val (v := nI (i + 1)) (nI_add i 1) ?_
  refine va_sld C.hx C.hb C.X C.bl (LA0_no C.bl) hS (vp_in_nI (by omega) (by have := C.le; omega)) dL_law_1373 ?_
  refine lv_aload_n C.hx C.hb dL_law_1374 rfl (lv_at hl 1 rfl) ?_
  refine lv_iload C.hx C.hb dL_law_1375 (lv_at hl 0 rfl) ?_
  refine lv_iconst (v := 2) C.hx C.hb dL_law_1377 (by decide) ?_
  refine lv_iadd C.hx C.hb dL_law_1378 ?_
  refine q_val (v := nI (i + 2)) (nI_add i 2) ?_
  refine va_sld C.hx C.hb C.X C.bl (LA0_no C.bl) hS (vp_in_nI (by omega) (by have := C.le; omega)) dL_law_1379 ?_
  refine lv_aload_n C.hx C.hb dL_law_1380 rfl (lv_at hl 4 rfl) ?_
  refine l_callO (g2 := g) (v2 := (if (fX6_ofBasket g (xs (nI (i + 1)).toNatClampNeg) (xs (nI (i + 2)).toNatClampNeg)).1 = 0 then (fX6_ofBasket g (xs (nI (i + 1)).toNatClampNeg) (xs (nI (i + 2)).toNatClampNeg)).2.toInt64 else vo)) (kv := (k12 (fX6_ofBasket g (xs (nI (i + 1)).toNatClampNeg) (xs (nI (i + 2)).toNatClampNeg)).1)) (As := [.ref (ad 0 0), .int (xs (nI (i + 1)).toNatClampNeg), .int (xs (nI (i + 2)).toNatClampNeg), .ref o]) (rest := []) ⟨C.hx, C.hb, C.ml, C.own, C.ts⟩ (kL_ofBasket l D cy hI hl0 g o vo _ (xs (nI (i + 1)).toNatClampNeg) (xs (nI (i + 2)).toNatClampNeg) hv) (vx_cwSW 4 C.ts gL_law_L_ofBasket rfl rfl rfl (by decide +kernel) ⟨Nat.le_of_ble_eq_true rfl, Nat.le_of_ble_eq_true rfl⟩) hB hL hS rfl hl.1 (Nat.le_of_ble_eq_true rfl) dL_law_1381 ⟨by refine Nat.le_trans (m := 400000) ?_ rc_c; show cells + _ ≤ 400000; omega, by refine Nat.le_trans (m := 4000000) ?_ rc_s; show slots + _ ≤ 4000000; omega⟩ (fun H locs hL hS => ?_)
  refine lv_istore (lv' := [(5, .int (k12 (fX6_ofBasket g (xs (nI (i + 1)).toNatClampNeg) (xs (nI (i + 2)).toNatClampNeg)).1)), (4, .int (nI i)), (0, .ref b), (1, .ref (ad 0 0)), (2, .ref mq), (3, .ref o)]) C.hx C.hb dL_law_1384 hl (by decide) rfl (fun ls hl => ?_)
  refine lv_aload_n C.hx C.hb dL_law_1386 rfl (lv_at hl 4 rfl) ?_
  refine lv_aload_n C.hx C.hb dL_law_1387 rfl (lv_at hl 2 rfl) ?_
  refine lv_iload C.hx C.hb dL_law_1388 (lv_at hl 1 rfl) ?_
  refine lv_iconst (v := 1) C.hx C.hb dL_law_1390 (by decide) ?_
  refine lv_iadd C.hx C.hb dL_law_1391 ?_
  refine q_val (v := nI (i + 1)) (nI_add i 1) ?_
  refine va_sld C.hx C.hb C.X C.bl (LA0_no C.bl) hS (vp_in_nI (by omega) (by have := C.le; omega)) dL_law_1392 ?_
  refine lv_aload_n C.hx C.hb dL_law_1393 rfl (lv_at hl 2 rfl) ?_
  refine lv_iload C.hx C.hb dL_law_1394 (lv_at hl 1 rfl) ?_
  refine lv_iconst (v := 2) C.hx C.hb dL_law_1396 (by decide) ?_
  refine lv_iadd C.hx C.hb dL_law_1397 ?_
  refine q_val (v := nI (i + 2)) (nI_add i 2) ?_
  refine va_sld C.hx C.hb C.X C.bl (LA0_no C.bl) hS (vp_in_nI (by omega) (by have := C.le; omega)) dL_law_1398 ?_
  refine l_callMi (v := (fX7_ofBasket (w 0 0) (w 0 1) (w 0 2) (w 0 3) (w 0 4) mm (xs (nI (i + 1)).toNatClampNeg) (xs (nI (i + 2)).toNatClampNeg)).1) (m2 := (fX7_ofBasket (w 0 0) (w 0 1) (w 0 2) (w 0 3) (w 0 4) mm (xs (nI (i + 1)).toNatClampNeg) (xs (nI (i + 2)).toNatClampNeg)).2) (S2 := SS) hmq (As := [.int (xs (nI (i + 1)).toNatClampNeg), .int (xs (nI (i + 2)).toNatClampNeg)]) (rest := []) ⟨C.hx, C.hb, C.ml, C.own, C.ts⟩ (mX7_ofBasket l D cy e0 mm SS _ (xs (nI (i + 1)).toNatClampNeg) (xs (nI (i + 2)).toNatClampNeg) hR.I hR.t4 hR.cap) (cwV 2 C.ts gL_law_X7_ofBasket rfl rfl rfl (by decide +kernel) ⟨Nat.le_of_ble_eq_true rfl, Nat.le_of_ble_eq_true rfl⟩) hB hL hS rfl hl.1 (Nat.le_of_ble_eq_true rfl) dL_law_1399 ⟨by refine Nat.le_trans (m := 400000) ?_ rc_c; show cells + _ + _ ≤ 400000; omega, by refine Nat.le_trans (m := 4000000) ?_ rc_s; show slots + _ + _ ≤ 4000000; omega⟩ (fun H locs hL hS => ?_)
  refine lv_istore (lv' := [(6, .int (fX7_ofBasket (w 0 0) (w 0 1) (w 0 2) (w 0 3) (w 0 4) mm (xs (nI (i + 1)).toNatClampNeg) (xs (nI (i + 2)).toNatClampNeg)).1), (5, .int (k12 (fX6_ofBasket g (xs (nI (i + 1)).toNatClampNeg) (xs (nI (i + 2)).toNatClampNeg)).1)), (4, .int (nI i)), (0, .ref b), (1, .ref (ad 0 0)), (2, .ref mq), (3, .ref o)]) C.hx C.hb dL_law_1402 hl (by decide) rfl (fun ls hl => ?_)
  refine lv_aload_n C.hx C.hb dL_law_1404 rfl (lv_at hl 5 rfl) ?_
  refine l_callMi (v := (fX7_ofBasket (w 0 0) (w 0 1) (w 0 2) (w 0 3) (w 0 4) mm (xs (nI (i + 1)).toNatClampNeg) (xs (nI (i + 2)).toNatClampNeg)).2 0 20) (m2 := (fX7_ofBasket (w 0 0) (w 0 1) (w 0 2) (w 0 3) (w 0 4) mm (xs (nI (i + 1)).toNatClampNeg) (xs (nI (i + 2)).toNatClampNeg)).2) (S2 := SS) hmq (As := []) (rest := []) ⟨C.hx, C.hb, C.ml, C.own, C.ts⟩ (kX7_thrown l D cy e0 (fX7_ofBasket (w 0 0) (w 0 1) (w 0 2) (w 0 3) (w 0 4) mm (xs (nI (i + 1)).toNatClampNeg) (xs (nI (i + 2)).toNatClampNeg)).2 SS _) (cwV 0 C.ts gL_law_X7_thrown rfl rfl rfl (by decide +kernel) ⟨Nat.le_of_ble_eq_true rfl, Nat.le_of_ble_eq_true rfl⟩) hB hL hS rfl hl.1 (Nat.le_of_ble_eq_true rfl) dL_law_1405 ⟨by refine Nat.le_trans (m := 400000) ?_ rc_c; show cells + _ + _ + _ ≤ 400000; omega, by refine Nat.le_trans (m := 4000000) ?_ rc_s; show slots + _ + _ + _ ≤ 4000000; omega⟩ (fun H locs hL hS => ?_)
  refine lv_iload C.hx C.hb dL_law_1408 (lv_at hl 1 rfl) ?_
  refine lv_icmp_eq (tgt := 1415) C.hx C.hb dL_law_1410 (by decide) (fun _ => ?_) (fun c => absurd hP.1 c)
  have K : W p l e room_1 s m #[Value.ref b] below meth c H locs (cells + 2 + 0 + 0) (slots + 12 + 0 + 0) Q (F0 m 1432 ls []) := by
    refine lv_goto (tgt := 2075) C.hx C.hb dL_law_1432 (by decide) ?_
    refine W.widen (k := cells + 450) (n := slots + 6200) (by omega) (by omega) ?_
    exact kk _ _ _ w _ _ _ _ ls hL (RS.of hP rfl rfl rfl rfl hR.t4 hR.cap) hS hmq (lv_sub hl [2, 3, 4, 5, 6] rfl)
  refine lv_iload C.hx C.hb dL_law_1415 (lv_at hl 1 rfl) ?_
  refine lv_if_ne (tgt := 1432) C.hx C.hb dL_law_1417 (by decide) (fun _ => K) (fun hz => ?_)
  have hc0 : (fX6_ofBasket g (xs (nI (i + 1)).toNatClampNeg) (xs (nI (i + 2)).toNatClampNeg)).1 = 0 := by
    rcases hcd with h | h | h
    · exact h
    · exact absurd (show (k12 (fX6_ofBasket g (xs (nI (i + 1)).toNatClampNeg) (xs (nI (i + 2)).toNatClampNeg)).1) = 0 from Classical.byContradiction (fun q => by first | exact hz q | exact q hz)) (by rw [h]; decide)
    · exact absurd (show (k12 (fX6_ofBasket g (xs (nI (i + 1)).toNatClampNeg) (xs (nI (i + 2)).toNatClampNeg)).1) = 0 from Classical.byContradiction (fun q => by first | exact hz q | exact q hz)) (by rw [h]; decide)
  refine lv_aload_n C.hx C.hb dL_law_1420 rfl (lv_at hl 6 rfl) ?_
  refine lv_iconst (v := 0) C.hx C.hb dL_law_1421 (by decide) ?_
  refine l_lald C.hx C.hb hB hL dL_law_1422 ?_
  refine l_val (v := (fX7_ofBasket (w 0 0) (w 0 1) (w 0 2) (w 0 3) (w 0 4) mm (xs (nI (i + 1)).toNatClampNeg) (xs (nI (i + 2)).toNatClampNeg)).1.toInt64) (by rw [if_pos hc0]; exact congrArg Int32.toInt64 (hP.2.1 hc0)) ?_
  refine lv_iload C.hx C.hb dL_law_1423 (lv_at hl 0 rfl) ?_
  refine lv_i2l C.hx C.hb dL_law_1425 rfl ?_
  refine W.lcmp C.hx C.hb dL_law_1426 ?_
  refine lv_if_eq (tgt := 1432) C.hx C.hb dL_law_1427 (by decide) (fun _ => K) (fun c => absurd (lcmp_self _) c)
set_option maxRecDepth 100000 in
set_option maxHeartbeats 4000000 in
theorem op_ofTank (C : LC p l s m c b L xs) (hI : cI ad) (hB : LWB D cy e0 s) (hL : LWS D cy ad o e0 s g vo bd w mm SS H) (hR : RS g mm w) (hS : va_S (LA0 s) s.heap H locs) (hmq : bd 0 0 = mq) (hi : i + 5 ≤ L) (hc : cells + 450 ≤ 400000) (hs : slots + 6200 ≤ 4000000) (hl : lv_has ls 9 [(4, .int (nI i)), (0, .ref b), (1, .ref (ad 0 0)), (2, .ref mq), (3, .ref o)])
    (kk : ∀ (g2 : Gd) (v2 : Int64) (bd2 w2 : Nat → Nat → Nat) (m2 : Md) (S2 : Int64) (H1 : Heap) (locs1 : List Loc) (ls1 : Array Slot), LWS D cy ad o e0 s g2 v2 bd2 w2 m2 S2 H1 → RS g2 m2 w2 → va_S (LA0 s) s.heap H1 locs1 → bd2 0 0 = mq → lv_has ls1 9 [(4, .int (nI i)), (0, .ref b), (1, .ref (ad 0 0)), (2, .ref mq), (3, .ref o)] → W p l e room_1 s m #[Value.ref b] below meth c H1 locs1 (cells + 450) (slots + 6200) Q (F0 m 2075 ls1 [])) :
    W p l e room_1 s m #[Value.ref b] below meth c H locs cells slots Q (F0 m 1435 ls []) := by
  have hI0 := hI
  have hl0 := C.st
  have hP : Ok (w 0 0) (w 0 1) (w 0 2) (w 0 3) (k12 (fX6_ofTank g (xs (nI (i + 1)).toNatClampNeg) (xs (nI (i + 2)).toNatClampNeg)).1) (fX6_ofTank g (xs (nI (i + 1)).toNatClampNeg) (xs (nI (i + 2)).toNatClampNeg)).1 (fX6_ofTank g (xs (nI (i + 1)).toNatClampNeg) (xs (nI (i + 2)).toNatClampNeg)).2 g (fX7_ofTank (w 0 0) (w 0 1) (w 0 2) (w 0 3) (w 0 4) mm (xs (nI (i + 1)).toNatClampNeg) (xs (nI (i + 2)).toNatClampNeg)).1 (fX7_ofTank (w 0 0) (w 0 1) (w 0 2) (w 0 3) (w 0 4) mm (xs (nI (i + 1)).toNatClampNeg) (xs (nI (i + 2)).toNatClampNeg)).2 := by rw [hR.t4]; exact P_ofTank (T := 0) hR.R hR.I hR.T (xs (nI (i + 1)).toNatClampNeg) (xs (nI (i + 2)).toNatClampNeg)
  have hcd := cd_ofTank g (xs (nI (i + 1)).toNatClampNeg) (xs (nI (i + 2)).toNatClampNeg)
  have hv : IvC g := ivC_of hR.R hR.I hR.T
  have hLL := C.le
  refine lv_aload_n C.hx C.hb dL_law_1435 rfl (lv_at hl 2 rfl) ?_
  refine lv_aload_n C.hx C.hb dL_law_1436 rfl (lv_at hl 1 rfl) ?_
  refine lv_iload C.hx C.hb dL_law_1437 (lv_at hl 0 rfl) ?_
  refine lv_iconst (v := 1) C.hx C.hb dL_law_1439 (by decide) ?_
  refine lv_iadd C.hx C.hb dL_law_1440 ?_
  refine q_val (v := nI (i + 1)) (nI_add i 1) ?_
  refine va_sld C.hx C.hb C.X C.bl (LA0_no C.bl) hS (vp_in_nI (by omega) (by have := C.le; omega)) dL_law_1441 ?_
  refine lv_aload_n C.hx C.hb dL_law_1442 rfl (lv_at hl 1 rfl) ?_
  refine lv_iload C.hx C.hb dL_law_1443 (lv_at hl 0 rfl) ?_
  refine lv_iconst (v := 2) C.hx C.hb dL_law_1445 (by decide) ?_
  refine lv_iadd C.hx C.hb dL_law_1446 ?_
  refine q_val (v := nI (i + 2)) (nI_add i 2) ?_
  refine va_sld C.hx C.hb C.X C.bl (LA0_no C.bl) hS (vp_in_nI (by omega) (by have := C.le; omega)) dL_law_1447 ?_
  refine lv_aload_n C.hx C.hb dL_law_1448 rfl (lv_at hl 4 rfl) ?_
  refine l_callO (g2 := g) (v2 := (if (fX6_ofTank g (xs (nI (i + 1)).toNatClampNeg) (xs (nI (i + 2)).toNatClampNeg)).1 = 0 then (fX6_ofTank g (xs (nI (i + 1)).toNatClampNeg) (xs (nI (i + 2)).toNatClampNeg)).2.toInt64 else vo)) (kv := (k12 (fX6_ofTank g (xs (nI (i + 1)).toNatClampNeg) (xs (nI (i + 2)).toNatClampNeg)).1)) (As := [.ref (ad 0 0), .int (xs (nI (i + 1)).toNatClampNeg), .int (xs (nI (i + 2)).toNatClampNeg), .ref o]) (rest := []) ⟨C.hx, C.hb, C.ml, C.own, C.ts⟩ (kL_ofTank l D cy hI hl0 g o vo _ (xs (nI (i + 1)).toNatClampNeg) (xs (nI (i + 2)).toNatClampNeg) ) (vx_cwSW 4 C.ts gL_law_L_ofTank rfl rfl rfl (by decide +kernel) ⟨Nat.le_of_ble_eq_true rfl, Nat.le_of_ble_eq_true rfl⟩) hB hL hS rfl hl.1 (Nat.le_of_ble_eq_true rfl) dL_law_1449 ⟨by refine Nat.le_trans (m := 400000) ?_ rc_c; show cells + _ ≤ 400000; omega, by refine Nat.le_trans (m := 4000000) ?_ rc_s; show slots + _ ≤ 4000000; omega⟩ (fun H locs hL hS => ?_)
  refine lv_istore (lv' := [(5, .int (k12 (fX6_ofTank g (xs (nI (i + 1)).toNatClampNeg) (xs (nI (i + 2)).toNatClampNeg)).1)), (4, .int (nI i)), (0, .ref b), (1, .ref (ad 0 0)), (2, .ref mq), (3, .ref o)]) C.hx C.hb dL_law_1452 hl (by decide) rfl (fun ls hl => ?_)
  refine lv_aload_n C.hx C.hb dL_law_1454 rfl (lv_at hl 4 rfl) ?_
  refine lv_aload_n C.hx C.hb dL_law_1455 rfl (lv_at hl 2 rfl) ?_
  refine lv_iload C.hx C.hb dL_law_1456 (lv_at hl 1 rfl) ?_
  refine lv_iconst (v := 1) C.hx C.hb dL_law_1458 (by decide) ?_
  refine lv_iadd C.hx C.hb dL_law_1459 ?_
  refine q_val (v := nI (i + 1)) (nI_add i 1) ?_
  refine va_sld C.hx C.hb C.X C.bl (LA0_no C.bl) hS (vp_in_nI (by omega) (by have := C.le; omega)) dL_law_1460 ?_
  refine lv_aload_n C.hx C.hb dL_law_1461 rfl (lv_at hl 2 rfl) ?_
  refine lv_iload C.hx C.hb dL_law_1462 (lv_at hl 1 rfl) ?_
  refine lv_iconst (v := 2) C.hx C.hb dL_law_1464 (by decide) ?_
  refine lv_iadd C.hx C.hb dL_law_1465 ?_
  refine q_val (v := nI (i + 2)) (nI_add i 2) ?_
  refine va_sld C.hx C.hb C.X C.bl (LA0_no C.bl) hS (vp_in_nI (by omega) (by have := C.le; omega)) dL_law_1466 ?_
  refine l_callMi (v := (fX7_ofTank (w 0 0) (w 0 1) (w 0 2) (w 0 3) (w 0 4) mm (xs (nI (i + 1)).toNatClampNeg) (xs (nI (i + 2)).toNatClampNeg)).1) (m2 := (fX7_ofTank (w 0 0) (w 0 1) (w 0 2) (w 0 3) (w 0 4) mm (xs (nI (i + 1)).toNatClampNeg) (xs (nI (i + 2)).toNatClampNeg)).2) (S2 := SS) hmq (As := [.int (xs (nI (i + 1)).toNatClampNeg), .int (xs (nI (i + 2)).toNatClampNeg)]) (rest := []) ⟨C.hx, C.hb, C.ml, C.own, C.ts⟩ (mX7_ofTank l D cy e0 mm SS _ (xs (nI (i + 1)).toNatClampNeg) (xs (nI (i + 2)).toNatClampNeg) hR.I hR.t4 hR.cap) (cwV 2 C.ts gL_law_X7_ofTank rfl rfl rfl (by decide +kernel) ⟨Nat.le_of_ble_eq_true rfl, Nat.le_of_ble_eq_true rfl⟩) hB hL hS rfl hl.1 (Nat.le_of_ble_eq_true rfl) dL_law_1467 ⟨by refine Nat.le_trans (m := 400000) ?_ rc_c; show cells + _ + _ ≤ 400000; omega, by refine Nat.le_trans (m := 4000000) ?_ rc_s; show slots + _ + _ ≤ 4000000; omega⟩ (fun H locs hL hS => ?_)
  refine lv_istore (lv' := [(6, .int (fX7_ofTank (w 0 0) (w 0 1) (w 0 2) (w 0 3) (w 0 4) mm (xs (nI (i + 1)).toNatClampNeg) (xs (nI (i + 2)).toNatClampNeg)).1), (5, .int (k12 (fX6_ofTank g (xs (nI (i + 1)).toNatClampNeg) (xs (nI (i + 2)).toNatClampNeg)).1)), (4, .int (nI i)), (0, .ref b), (1, .ref (ad 0 0)), (2, .ref mq), (3, .ref o)]) C.hx C.hb dL_law_1470 hl (by decide) rfl (fun ls hl => ?_)
  refine lv_aload_n C.hx C.hb dL_law_1472 rfl (lv_at hl 5 rfl) ?_
  refine l_callMi (v := (fX7_ofTank (w 0 0) (w 0 1) (w 0 2) (w 0 3) (w 0 4) mm (xs (nI (i + 1)).toNatClampNeg) (xs (nI (i + 2)).toNatClampNeg)).2 0 20) (m2 := (fX7_ofTank (w 0 0) (w 0 1) (w 0 2) (w 0 3) (w 0 4) mm (xs (nI (i + 1)).toNatClampNeg) (xs (nI (i + 2)).toNatClampNeg)).2) (S2 := SS) hmq (As := []) (rest := []) ⟨C.hx, C.hb, C.ml, C.own, C.ts⟩ (kX7_thrown l D cy e0 (fX7_ofTank (w 0 0) (w 0 1) (w 0 2) (w 0 3) (w 0 4) mm (xs (nI (i + 1)).toNatClampNeg) (xs (nI (i + 2)).toNatClampNeg)).2 SS _) (cwV 0 C.ts gL_law_X7_thrown rfl rfl rfl (by decide +kernel) ⟨Nat.le_of_ble_eq_true rfl, Nat.le_of_ble_eq_true rfl⟩) hB hL hS rfl hl.1 (Nat.le_of_ble_eq_true rfl) dL_law_1473 ⟨by refine Nat.le_trans (m := 400000) ?_ rc_c; show cells + _ + _ + _ ≤ 400000; omega, by refine Nat.le_trans (m := 4000000) ?_ rc_s; show slots + _ + _ + _ ≤ 4000000; omega⟩ (fun H locs hL hS => ?_)
  refine lv_iload C.hx C.hb dL_law_1476 (lv_at hl 1 rfl) ?_
  refine lv_icmp_eq (tgt := 1483) C.hx C.hb dL_law_1478 (by decide) (fun _ => ?_) (fun c => absurd hP.1 c)
  have K : W p l e room_1 s m #[Value.ref b] below meth c H locs (cells + 2 + 0 + 0) (slots + 12 + 0 + 0) Q (F0 m 1500 ls []) := by
    refine lv_goto (tgt := 2075) C.hx C.hb dL_law_1500 (by decide) ?_
    refine W.widen (k := cells + 450) (n := slots + 6200) (by omega) (by omega) ?_
    exact kk _ _ _ w _ _ _ _ ls hL (RS.of hP rfl rfl rfl rfl hR.t4 hR.cap) hS hmq (lv_sub hl [2, 3, 4, 5, 6] rfl)
  refine lv_iload C.hx C.hb dL_law_1483 (lv_at hl 1 rfl) ?_
  refine lv_if_ne (tgt := 1500) C.hx C.hb dL_law_1485 (by decide) (fun _ => K) (fun hz => ?_)
  have hc0 : (fX6_ofTank g (xs (nI (i + 1)).toNatClampNeg) (xs (nI (i + 2)).toNatClampNeg)).1 = 0 := by
    rcases hcd with h | h | h
    · exact h
    · exact absurd (show (k12 (fX6_ofTank g (xs (nI (i + 1)).toNatClampNeg) (xs (nI (i + 2)).toNatClampNeg)).1) = 0 from Classical.byContradiction (fun q => by first | exact hz q | exact q hz)) (by rw [h]; decide)
    · exact absurd (show (k12 (fX6_ofTank g (xs (nI (i + 1)).toNatClampNeg) (xs (nI (i + 2)).toNatClampNeg)).1) = 0 from Classical.byContradiction (fun q => by first | exact hz q | exact q hz)) (by rw [h]; decide)
  refine lv_aload_n C.hx C.hb dL_law_1488 rfl (lv_at hl 6 rfl) ?_
  refine lv_iconst (v := 0) C.hx C.hb dL_law_1489 (by decide) ?_
  refine l_lald C.hx C.hb hB hL dL_law_1490 ?_
  refine l_val (v := (fX7_ofTank (w 0 0) (w 0 1) (w 0 2) (w 0 3) (w 0 4) mm (xs (nI (i + 1)).toNatClampNeg) (xs (nI (i + 2)).toNatClampNeg)).1.toInt64) (by rw [if_pos hc0]; exact congrArg Int32.toInt64 (hP.2.1 hc0)) ?_
  refine lv_iload C.hx C.hb dL_law_1491 (lv_at hl 0 rfl) ?_
  refine lv_i2l C.hx C.hb dL_law_1493 rfl ?_
  refine W.lcmp C.hx C.hb dL_law_1494 ?_
  refine lv_if_eq (tgt := 1500) C.hx C.hb dL_law_1495 (by decide) (fun _ => K) (fun c => absurd (lcmp_self _) c)
set_option maxRecDepth 100000 in
set_option maxHeartbeats 4000000 in
theorem op_ofBed (C : LC p l s m c b L xs) (hI : cI ad) (hB : LWB D cy e0 s) (hL : LWS D cy ad o e0 s g vo bd w mm SS H) (hR : RS g mm w) (hS : va_S (LA0 s) s.heap H locs) (hmq : bd 0 0 = mq) (hi : i + 5 ≤ L) (hc : cells + 450 ≤ 400000) (hs : slots + 6200 ≤ 4000000) (hl : lv_has ls 9 [(4, .int (nI i)), (0, .ref b), (1, .ref (ad 0 0)), (2, .ref mq), (3, .ref o)])
    (kk : ∀ (g2 : Gd) (v2 : Int64) (bd2 w2 : Nat → Nat → Nat) (m2 : Md) (S2 : Int64) (H1 : Heap) (locs1 : List Loc) (ls1 : Array Slot), LWS D cy ad o e0 s g2 v2 bd2 w2 m2 S2 H1 → RS g2 m2 w2 → va_S (LA0 s) s.heap H1 locs1 → bd2 0 0 = mq → lv_has ls1 9 [(4, .int (nI i)), (0, .ref b), (1, .ref (ad 0 0)), (2, .ref mq), (3, .ref o)] → W p l e room_1 s m #[Value.ref b] below meth c H1 locs1 (cells + 450) (slots + 6200) Q (F0 m 2075 ls1 [])) :
    W p l e room_1 s m #[Value.ref b] below meth c H locs cells slots Q (F0 m 1503 ls []) := by
  have hI0 := hI
  have hl0 := C.st
  have hP : Ok (w 0 0) (w 0 1) (w 0 2) (w 0 3) (k12 (fX6_ofBed g (xs (nI (i + 1)).toNatClampNeg) (xs (nI (i + 2)).toNatClampNeg)).1) (fX6_ofBed g (xs (nI (i + 1)).toNatClampNeg) (xs (nI (i + 2)).toNatClampNeg)).1 (fX6_ofBed g (xs (nI (i + 1)).toNatClampNeg) (xs (nI (i + 2)).toNatClampNeg)).2 g (fX7_ofBed (w 0 0) (w 0 1) (w 0 2) (w 0 3) (w 0 4) mm (xs (nI (i + 1)).toNatClampNeg) (xs (nI (i + 2)).toNatClampNeg)).1 (fX7_ofBed (w 0 0) (w 0 1) (w 0 2) (w 0 3) (w 0 4) mm (xs (nI (i + 1)).toNatClampNeg) (xs (nI (i + 2)).toNatClampNeg)).2 := by rw [hR.t4]; exact P_ofBed (T := 0) hR.R hR.I hR.T (xs (nI (i + 1)).toNatClampNeg) (xs (nI (i + 2)).toNatClampNeg)
  have hcd := cd_ofBed g (xs (nI (i + 1)).toNatClampNeg) (xs (nI (i + 2)).toNatClampNeg)
  have hv : IvC g := ivC_of hR.R hR.I hR.T
  have hLL := C.le
  refine lv_aload_n C.hx C.hb dL_law_1503 rfl (lv_at hl 2 rfl) ?_
  refine lv_aload_n C.hx C.hb dL_law_1504 rfl (lv_at hl 1 rfl) ?_
  refine lv_iload C.hx C.hb dL_law_1505 (lv_at hl 0 rfl) ?_
  refine lv_iconst (v := 1) C.hx C.hb dL_law_1507 (by decide) ?_
  refine lv_iadd C.hx C.hb dL_law_1508 ?_
  refine q_val (v := nI (i + 1)) (nI_add i 1) ?_
  refine va_sld C.hx C.hb C.X C.bl (LA0_no C.bl) hS (vp_in_nI (by omega) (by have := C.le; omega)) dL_law_1509 ?_
  refine lv_aload_n C.hx C.hb dL_law_1510 rfl (lv_at hl 1 rfl) ?_
  refine lv_iload C.hx C.hb dL_law_1511 (lv_at hl 0 rfl) ?_
  refine lv_iconst (v := 2) C.hx C.hb dL_law_1513 (by decide) ?_
  refine lv_iadd C.hx C.hb dL_law_1514 ?_
  refine q_val (v := nI (i + 2)) (nI_add i 2) ?_
  refine va_sld C.hx C.hb C.X C.bl (LA0_no C.bl) hS (vp_in_nI (by omega) (by have := C.le; omega)) dL_law_1515 ?_
  refine lv_aload_n C.hx C.hb dL_law_1516 rfl (lv_at hl 4 rfl) ?_
  refine l_callO (g2 := g) (v2 := (if (fX6_ofBed g (xs (nI (i + 1)).toNatClampNeg) (xs (nI (i + 2)).toNatClampNeg)).1 = 0 then (fX6_ofBed g (xs (nI (i + 1)).toNatClampNeg) (xs (nI (i + 2)).toNatClampNeg)).2.toInt64 else vo)) (kv := (k12 (fX6_ofBed g (xs (nI (i + 1)).toNatClampNeg) (xs (nI (i + 2)).toNatClampNeg)).1)) (As := [.ref (ad 0 0), .int (xs (nI (i + 1)).toNatClampNeg), .int (xs (nI (i + 2)).toNatClampNeg), .ref o]) (rest := []) ⟨C.hx, C.hb, C.ml, C.own, C.ts⟩ (kL_ofBed l D cy hI hl0 g o vo _ (xs (nI (i + 1)).toNatClampNeg) (xs (nI (i + 2)).toNatClampNeg) hv) (vx_cwSW 4 C.ts gL_law_L_ofBed rfl rfl rfl (by decide +kernel) ⟨Nat.le_of_ble_eq_true rfl, Nat.le_of_ble_eq_true rfl⟩) hB hL hS rfl hl.1 (Nat.le_of_ble_eq_true rfl) dL_law_1517 ⟨by refine Nat.le_trans (m := 400000) ?_ rc_c; show cells + _ ≤ 400000; omega, by refine Nat.le_trans (m := 4000000) ?_ rc_s; show slots + _ ≤ 4000000; omega⟩ (fun H locs hL hS => ?_)
  refine lv_istore (lv' := [(5, .int (k12 (fX6_ofBed g (xs (nI (i + 1)).toNatClampNeg) (xs (nI (i + 2)).toNatClampNeg)).1)), (4, .int (nI i)), (0, .ref b), (1, .ref (ad 0 0)), (2, .ref mq), (3, .ref o)]) C.hx C.hb dL_law_1520 hl (by decide) rfl (fun ls hl => ?_)
  refine lv_aload_n C.hx C.hb dL_law_1522 rfl (lv_at hl 4 rfl) ?_
  refine lv_aload_n C.hx C.hb dL_law_1523 rfl (lv_at hl 2 rfl) ?_
  refine lv_iload C.hx C.hb dL_law_1524 (lv_at hl 1 rfl) ?_
  refine lv_iconst (v := 1) C.hx C.hb dL_law_1526 (by decide) ?_
  refine lv_iadd C.hx C.hb dL_law_1527 ?_
  refine q_val (v := nI (i + 1)) (nI_add i 1) ?_
  refine va_sld C.hx C.hb C.X C.bl (LA0_no C.bl) hS (vp_in_nI (by omega) (by have := C.le; omega)) dL_law_1528 ?_
  refine lv_aload_n C.hx C.hb dL_law_1529 rfl (lv_at hl 2 rfl) ?_
  refine lv_iload C.hx C.hb dL_law_1530 (lv_at hl 1 rfl) ?_
  refine lv_iconst (v := 2) C.hx C.hb dL_law_1532 (by decide) ?_
  refine lv_iadd C.hx C.hb dL_law_1533 ?_
  refine q_val (v := nI (i + 2)) (nI_add i 2) ?_
  refine va_sld C.hx C.hb C.X C.bl (LA0_no C.bl) hS (vp_in_nI (by omega) (by have := C.le; omega)) dL_law_1534 ?_
  refine l_callMi (v := (fX7_ofBed (w 0 0) (w 0 1) (w 0 2) (w 0 3) (w 0 4) mm (xs (nI (i + 1)).toNatClampNeg) (xs (nI (i + 2)).toNatClampNeg)).1) (m2 := (fX7_ofBed (w 0 0) (w 0 1) (w 0 2) (w 0 3) (w 0 4) mm (xs (nI (i + 1)).toNatClampNeg) (xs (nI (i + 2)).toNatClampNeg)).2) (S2 := SS) hmq (As := [.int (xs (nI (i + 1)).toNatClampNeg), .int (xs (nI (i + 2)).toNatClampNeg)]) (rest := []) ⟨C.hx, C.hb, C.ml, C.own, C.ts⟩ (mX7_ofBed l D cy e0 mm SS _ (xs (nI (i + 1)).toNatClampNeg) (xs (nI (i + 2)).toNatClampNeg) hR.I hR.t4 hR.cap) (cwV 2 C.ts gL_law_X7_ofBed rfl rfl rfl (by decide +kernel) ⟨Nat.le_of_ble_eq_true rfl, Nat.le_of_ble_eq_true rfl⟩) hB hL hS rfl hl.1 (Nat.le_of_ble_eq_true rfl) dL_law_1535 ⟨by refine Nat.le_trans (m := 400000) ?_ rc_c; show cells + _ + _ ≤ 400000; omega, by refine Nat.le_trans (m := 4000000) ?_ rc_s; show slots + _ + _ ≤ 4000000; omega⟩ (fun H locs hL hS => ?_)
  refine lv_istore (lv' := [(6, .int (fX7_ofBed (w 0 0) (w 0 1) (w 0 2) (w 0 3) (w 0 4) mm (xs (nI (i + 1)).toNatClampNeg) (xs (nI (i + 2)).toNatClampNeg)).1), (5, .int (k12 (fX6_ofBed g (xs (nI (i + 1)).toNatClampNeg) (xs (nI (i + 2)).toNatClampNeg)).1)), (4, .int (nI i)), (0, .ref b), (1, .ref (ad 0 0)), (2, .ref mq), (3, .ref o)]) C.hx C.hb dL_law_1538 hl (by decide) rfl (fun ls hl => ?_)
  refine lv_aload_n C.hx C.hb dL_law_1540 rfl (lv_at hl 5 rfl) ?_
  refine l_callMi (v := (fX7_ofBed (w 0 0) (w 0 1) (w 0 2) (w 0 3) (w 0 4) mm (xs (nI (i + 1)).toNatClampNeg) (xs (nI (i + 2)).toNatClampNeg)).2 0 20) (m2 := (fX7_ofBed (w 0 0) (w 0 1) (w 0 2) (w 0 3) (w 0 4) mm (xs (nI (i + 1)).toNatClampNeg) (xs (nI (i + 2)).toNatClampNeg)).2) (S2 := SS) hmq (As := []) (rest := []) ⟨C.hx, C.hb, C.ml, C.own, C.ts⟩ (kX7_thrown l D cy e0 (fX7_ofBed (w 0 0) (w 0 1) (w 0 2) (w 0 3) (w 0 4) mm (xs (nI (i + 1)).toNatClampNeg) (xs (nI (i + 2)).toNatClampNeg)).2 SS _) (cwV 0 C.ts gL_law_X7_thrown rfl rfl rfl (by decide +kernel) ⟨Nat.le_of_ble_eq_true rfl, Nat.le_of_ble_eq_true rfl⟩) hB hL hS rfl hl.1 (Nat.le_of_ble_eq_true rfl) dL_law_1541 ⟨by refine Nat.le_trans (m := 400000) ?_ rc_c; show cells + _ + _ + _ ≤ 400000; omega, by refine Nat.le_trans (m := 4000000) ?_ rc_s; show slots + _ + _ + _ ≤ 4000000; omega⟩ (fun H locs hL hS => ?_)
  refine lv_iload C.hx C.hb dL_law_1544 (lv_at hl 1 rfl) ?_
  refine lv_icmp_eq (tgt := 1551) C.hx C.hb dL_law_1546 (by decide) (fun _ => ?_) (fun c => absurd hP.1 c)
  have K : W p l e room_1 s m #[Value.ref b] below meth c H locs (cells + 2 + 1 + 0) (slots + 12 + 8 + 0) Q (F0 m 1568 ls []) := by
    refine lv_goto (tgt := 2075) C.hx C.hb dL_law_1568 (by decide) ?_
    refine W.widen (k := cells + 450) (n := slots + 6200) (by omega) (by omega) ?_
    exact kk _ _ _ w _ _ _ _ ls hL (RS.of hP rfl rfl rfl rfl hR.t4 hR.cap) hS hmq (lv_sub hl [2, 3, 4, 5, 6] rfl)
  refine lv_iload C.hx C.hb dL_law_1551 (lv_at hl 1 rfl) ?_
  refine lv_if_ne (tgt := 1568) C.hx C.hb dL_law_1553 (by decide) (fun _ => K) (fun hz => ?_)
  have hc0 : (fX6_ofBed g (xs (nI (i + 1)).toNatClampNeg) (xs (nI (i + 2)).toNatClampNeg)).1 = 0 := by
    rcases hcd with h | h | h
    · exact h
    · exact absurd (show (k12 (fX6_ofBed g (xs (nI (i + 1)).toNatClampNeg) (xs (nI (i + 2)).toNatClampNeg)).1) = 0 from Classical.byContradiction (fun q => by first | exact hz q | exact q hz)) (by rw [h]; decide)
    · exact absurd (show (k12 (fX6_ofBed g (xs (nI (i + 1)).toNatClampNeg) (xs (nI (i + 2)).toNatClampNeg)).1) = 0 from Classical.byContradiction (fun q => by first | exact hz q | exact q hz)) (by rw [h]; decide)
  refine lv_aload_n C.hx C.hb dL_law_1556 rfl (lv_at hl 6 rfl) ?_
  refine lv_iconst (v := 0) C.hx C.hb dL_law_1557 (by decide) ?_
  refine l_lald C.hx C.hb hB hL dL_law_1558 ?_
  refine l_val (v := (fX7_ofBed (w 0 0) (w 0 1) (w 0 2) (w 0 3) (w 0 4) mm (xs (nI (i + 1)).toNatClampNeg) (xs (nI (i + 2)).toNatClampNeg)).1.toInt64) (by rw [if_pos hc0]; exact congrArg Int32.toInt64 (hP.2.1 hc0)) ?_
  refine lv_iload C.hx C.hb dL_law_1559 (lv_at hl 0 rfl) ?_
  refine lv_i2l C.hx C.hb dL_law_1561 rfl ?_
  refine W.lcmp C.hx C.hb dL_law_1562 ?_
  refine lv_if_eq (tgt := 1568) C.hx C.hb dL_law_1563 (by decide) (fun _ => K) (fun c => absurd (lcmp_self _) c)
set_option maxRecDepth 100000 in
set_option maxHeartbeats 4000000 in
theorem op_ofLot (C : LC p l s m c b L xs) (hI : cI ad) (hB : LWB D cy e0 s) (hL : LWS D cy ad o e0 s g vo bd w mm SS H) (hR : RS g mm w) (hS : va_S (LA0 s) s.heap H locs) (hmq : bd 0 0 = mq) (hi : i + 5 ≤ L) (hc : cells + 450 ≤ 400000) (hs : slots + 6200 ≤ 4000000) (hl : lv_has ls 9 [(4, .int (nI i)), (0, .ref b), (1, .ref (ad 0 0)), (2, .ref mq), (3, .ref o)])
    (kk : ∀ (g2 : Gd) (v2 : Int64) (bd2 w2 : Nat → Nat → Nat) (m2 : Md) (S2 : Int64) (H1 : Heap) (locs1 : List Loc) (ls1 : Array Slot), LWS D cy ad o e0 s g2 v2 bd2 w2 m2 S2 H1 → RS g2 m2 w2 → va_S (LA0 s) s.heap H1 locs1 → bd2 0 0 = mq → lv_has ls1 9 [(4, .int (nI i)), (0, .ref b), (1, .ref (ad 0 0)), (2, .ref mq), (3, .ref o)] → W p l e room_1 s m #[Value.ref b] below meth c H1 locs1 (cells + 450) (slots + 6200) Q (F0 m 2075 ls1 [])) :
    W p l e room_1 s m #[Value.ref b] below meth c H locs cells slots Q (F0 m 1571 ls []) := by
  have hI0 := hI
  have hl0 := C.st
  have hP : Ok (w 0 0) (w 0 1) (w 0 2) (w 0 3) (k12 (fX6_ofLot g (xs (nI (i + 1)).toNatClampNeg) (xs (nI (i + 2)).toNatClampNeg)).1) (fX6_ofLot g (xs (nI (i + 1)).toNatClampNeg) (xs (nI (i + 2)).toNatClampNeg)).1 (fX6_ofLot g (xs (nI (i + 1)).toNatClampNeg) (xs (nI (i + 2)).toNatClampNeg)).2 g (fX7_ofLot (w 0 0) (w 0 1) (w 0 2) (w 0 3) (w 0 4) mm (xs (nI (i + 1)).toNatClampNeg) (xs (nI (i + 2)).toNatClampNeg)).1 (fX7_ofLot (w 0 0) (w 0 1) (w 0 2) (w 0 3) (w 0 4) mm (xs (nI (i + 1)).toNatClampNeg) (xs (nI (i + 2)).toNatClampNeg)).2 := by rw [hR.t4]; exact P_ofLot (T := 0) hR.R hR.I hR.T (xs (nI (i + 1)).toNatClampNeg) (xs (nI (i + 2)).toNatClampNeg)
  have hcd := cd_ofLot g (xs (nI (i + 1)).toNatClampNeg) (xs (nI (i + 2)).toNatClampNeg)
  have hv : IvC g := ivC_of hR.R hR.I hR.T
  have hLL := C.le
  refine lv_aload_n C.hx C.hb dL_law_1571 rfl (lv_at hl 2 rfl) ?_
  refine lv_aload_n C.hx C.hb dL_law_1572 rfl (lv_at hl 1 rfl) ?_
  refine lv_iload C.hx C.hb dL_law_1573 (lv_at hl 0 rfl) ?_
  refine lv_iconst (v := 1) C.hx C.hb dL_law_1575 (by decide) ?_
  refine lv_iadd C.hx C.hb dL_law_1576 ?_
  refine q_val (v := nI (i + 1)) (nI_add i 1) ?_
  refine va_sld C.hx C.hb C.X C.bl (LA0_no C.bl) hS (vp_in_nI (by omega) (by have := C.le; omega)) dL_law_1577 ?_
  refine lv_aload_n C.hx C.hb dL_law_1578 rfl (lv_at hl 1 rfl) ?_
  refine lv_iload C.hx C.hb dL_law_1579 (lv_at hl 0 rfl) ?_
  refine lv_iconst (v := 2) C.hx C.hb dL_law_1581 (by decide) ?_
  refine lv_iadd C.hx C.hb dL_law_1582 ?_
  refine q_val (v := nI (i + 2)) (nI_add i 2) ?_
  refine va_sld C.hx C.hb C.X C.bl (LA0_no C.bl) hS (vp_in_nI (by omega) (by have := C.le; omega)) dL_law_1583 ?_
  refine lv_aload_n C.hx C.hb dL_law_1584 rfl (lv_at hl 4 rfl) ?_
  refine l_callO (g2 := g) (v2 := (if (fX6_ofLot g (xs (nI (i + 1)).toNatClampNeg) (xs (nI (i + 2)).toNatClampNeg)).1 = 0 then (fX6_ofLot g (xs (nI (i + 1)).toNatClampNeg) (xs (nI (i + 2)).toNatClampNeg)).2.toInt64 else vo)) (kv := (k12 (fX6_ofLot g (xs (nI (i + 1)).toNatClampNeg) (xs (nI (i + 2)).toNatClampNeg)).1)) (As := [.ref (ad 0 0), .int (xs (nI (i + 1)).toNatClampNeg), .int (xs (nI (i + 2)).toNatClampNeg), .ref o]) (rest := []) ⟨C.hx, C.hb, C.ml, C.own, C.ts⟩ (kL_ofLot l D cy hI hl0 g o vo _ (xs (nI (i + 1)).toNatClampNeg) (xs (nI (i + 2)).toNatClampNeg) hv) (vx_cwSW 4 C.ts gL_law_L_ofLot rfl rfl rfl (by decide +kernel) ⟨Nat.le_of_ble_eq_true rfl, Nat.le_of_ble_eq_true rfl⟩) hB hL hS rfl hl.1 (Nat.le_of_ble_eq_true rfl) dL_law_1585 ⟨by refine Nat.le_trans (m := 400000) ?_ rc_c; show cells + _ ≤ 400000; omega, by refine Nat.le_trans (m := 4000000) ?_ rc_s; show slots + _ ≤ 4000000; omega⟩ (fun H locs hL hS => ?_)
  refine lv_istore (lv' := [(5, .int (k12 (fX6_ofLot g (xs (nI (i + 1)).toNatClampNeg) (xs (nI (i + 2)).toNatClampNeg)).1)), (4, .int (nI i)), (0, .ref b), (1, .ref (ad 0 0)), (2, .ref mq), (3, .ref o)]) C.hx C.hb dL_law_1588 hl (by decide) rfl (fun ls hl => ?_)
  refine lv_aload_n C.hx C.hb dL_law_1590 rfl (lv_at hl 4 rfl) ?_
  refine lv_aload_n C.hx C.hb dL_law_1591 rfl (lv_at hl 2 rfl) ?_
  refine lv_iload C.hx C.hb dL_law_1592 (lv_at hl 1 rfl) ?_
  refine lv_iconst (v := 1) C.hx C.hb dL_law_1594 (by decide) ?_
  refine lv_iadd C.hx C.hb dL_law_1595 ?_
  refine q_val (v := nI (i + 1)) (nI_add i 1) ?_
  refine va_sld C.hx C.hb C.X C.bl (LA0_no C.bl) hS (vp_in_nI (by omega) (by have := C.le; omega)) dL_law_1596 ?_
  refine lv_aload_n C.hx C.hb dL_law_1597 rfl (lv_at hl 2 rfl) ?_
  refine lv_iload C.hx C.hb dL_law_1598 (lv_at hl 1 rfl) ?_
  refine lv_iconst (v := 2) C.hx C.hb dL_law_1600 (by decide) ?_
  refine lv_iadd C.hx C.hb dL_law_1601 ?_
  refine q_val (v := nI (i + 2)) (nI_add i 2) ?_
  refine va_sld C.hx C.hb C.X C.bl (LA0_no C.bl) hS (vp_in_nI (by omega) (by have := C.le; omega)) dL_law_1602 ?_
  refine l_callMi (v := (fX7_ofLot (w 0 0) (w 0 1) (w 0 2) (w 0 3) (w 0 4) mm (xs (nI (i + 1)).toNatClampNeg) (xs (nI (i + 2)).toNatClampNeg)).1) (m2 := (fX7_ofLot (w 0 0) (w 0 1) (w 0 2) (w 0 3) (w 0 4) mm (xs (nI (i + 1)).toNatClampNeg) (xs (nI (i + 2)).toNatClampNeg)).2) (S2 := SS) hmq (As := [.int (xs (nI (i + 1)).toNatClampNeg), .int (xs (nI (i + 2)).toNatClampNeg)]) (rest := []) ⟨C.hx, C.hb, C.ml, C.own, C.ts⟩ (mX7_ofLot l D cy e0 mm SS _ (xs (nI (i + 1)).toNatClampNeg) (xs (nI (i + 2)).toNatClampNeg) hR.I hR.t4 hR.cap) (cwV 2 C.ts gL_law_X7_ofLot rfl rfl rfl (by decide +kernel) ⟨Nat.le_of_ble_eq_true rfl, Nat.le_of_ble_eq_true rfl⟩) hB hL hS rfl hl.1 (Nat.le_of_ble_eq_true rfl) dL_law_1603 ⟨by refine Nat.le_trans (m := 400000) ?_ rc_c; show cells + _ + _ ≤ 400000; omega, by refine Nat.le_trans (m := 4000000) ?_ rc_s; show slots + _ + _ ≤ 4000000; omega⟩ (fun H locs hL hS => ?_)
  refine lv_istore (lv' := [(6, .int (fX7_ofLot (w 0 0) (w 0 1) (w 0 2) (w 0 3) (w 0 4) mm (xs (nI (i + 1)).toNatClampNeg) (xs (nI (i + 2)).toNatClampNeg)).1), (5, .int (k12 (fX6_ofLot g (xs (nI (i + 1)).toNatClampNeg) (xs (nI (i + 2)).toNatClampNeg)).1)), (4, .int (nI i)), (0, .ref b), (1, .ref (ad 0 0)), (2, .ref mq), (3, .ref o)]) C.hx C.hb dL_law_1606 hl (by decide) rfl (fun ls hl => ?_)
  refine lv_aload_n C.hx C.hb dL_law_1608 rfl (lv_at hl 5 rfl) ?_
  refine l_callMi (v := (fX7_ofLot (w 0 0) (w 0 1) (w 0 2) (w 0 3) (w 0 4) mm (xs (nI (i + 1)).toNatClampNeg) (xs (nI (i + 2)).toNatClampNeg)).2 0 20) (m2 := (fX7_ofLot (w 0 0) (w 0 1) (w 0 2) (w 0 3) (w 0 4) mm (xs (nI (i + 1)).toNatClampNeg) (xs (nI (i + 2)).toNatClampNeg)).2) (S2 := SS) hmq (As := []) (rest := []) ⟨C.hx, C.hb, C.ml, C.own, C.ts⟩ (kX7_thrown l D cy e0 (fX7_ofLot (w 0 0) (w 0 1) (w 0 2) (w 0 3) (w 0 4) mm (xs (nI (i + 1)).toNatClampNeg) (xs (nI (i + 2)).toNatClampNeg)).2 SS _) (cwV 0 C.ts gL_law_X7_thrown rfl rfl rfl (by decide +kernel) ⟨Nat.le_of_ble_eq_true rfl, Nat.le_of_ble_eq_true rfl⟩) hB hL hS rfl hl.1 (Nat.le_of_ble_eq_true rfl) dL_law_1609 ⟨by refine Nat.le_trans (m := 400000) ?_ rc_c; show cells + _ + _ + _ ≤ 400000; omega, by refine Nat.le_trans (m := 4000000) ?_ rc_s; show slots + _ + _ + _ ≤ 4000000; omega⟩ (fun H locs hL hS => ?_)
  refine lv_iload C.hx C.hb dL_law_1612 (lv_at hl 1 rfl) ?_
  refine lv_icmp_eq (tgt := 1619) C.hx C.hb dL_law_1614 (by decide) (fun _ => ?_) (fun c => absurd hP.1 c)
  have K : W p l e room_1 s m #[Value.ref b] below meth c H locs (cells + 2 + 1 + 0) (slots + 12 + 12 + 0) Q (F0 m 1636 ls []) := by
    refine lv_goto (tgt := 2075) C.hx C.hb dL_law_1636 (by decide) ?_
    refine W.widen (k := cells + 450) (n := slots + 6200) (by omega) (by omega) ?_
    exact kk _ _ _ w _ _ _ _ ls hL (RS.of hP rfl rfl rfl rfl hR.t4 hR.cap) hS hmq (lv_sub hl [2, 3, 4, 5, 6] rfl)
  refine lv_iload C.hx C.hb dL_law_1619 (lv_at hl 1 rfl) ?_
  refine lv_if_ne (tgt := 1636) C.hx C.hb dL_law_1621 (by decide) (fun _ => K) (fun hz => ?_)
  have hc0 : (fX6_ofLot g (xs (nI (i + 1)).toNatClampNeg) (xs (nI (i + 2)).toNatClampNeg)).1 = 0 := by
    rcases hcd with h | h | h
    · exact h
    · exact absurd (show (k12 (fX6_ofLot g (xs (nI (i + 1)).toNatClampNeg) (xs (nI (i + 2)).toNatClampNeg)).1) = 0 from Classical.byContradiction (fun q => by first | exact hz q | exact q hz)) (by rw [h]; decide)
    · exact absurd (show (k12 (fX6_ofLot g (xs (nI (i + 1)).toNatClampNeg) (xs (nI (i + 2)).toNatClampNeg)).1) = 0 from Classical.byContradiction (fun q => by first | exact hz q | exact q hz)) (by rw [h]; decide)
  refine lv_aload_n C.hx C.hb dL_law_1624 rfl (lv_at hl 6 rfl) ?_
  refine lv_iconst (v := 0) C.hx C.hb dL_law_1625 (by decide) ?_
  refine l_lald C.hx C.hb hB hL dL_law_1626 ?_
  refine l_val (v := (fX7_ofLot (w 0 0) (w 0 1) (w 0 2) (w 0 3) (w 0 4) mm (xs (nI (i + 1)).toNatClampNeg) (xs (nI (i + 2)).toNatClampNeg)).1.toInt64) (by rw [if_pos hc0]; exact congrArg Int32.toInt64 (hP.2.1 hc0)) ?_
  refine lv_iload C.hx C.hb dL_law_1627 (lv_at hl 0 rfl) ?_
  refine lv_i2l C.hx C.hb dL_law_1629 rfl ?_
  refine W.lcmp C.hx C.hb dL_law_1630 ?_
  refine lv_if_eq (tgt := 1636) C.hx C.hb dL_law_1631 (by decide) (fun _ => K) (fun c => absurd (lcmp_self _) c)
set_option maxRecDepth 100000 in
set_option maxHeartbeats 4000000 in
theorem op_kilosOf (C : LC p l s m c b L xs) (hI : cI ad) (hB : LWB D cy e0 s) (hL : LWS D cy ad o e0 s g vo bd w mm SS H) (hR : RS g mm w) (hS : va_S (LA0 s) s.heap H locs) (hmq : bd 0 0 = mq) (hi : i + 5 ≤ L) (hc : cells + 450 ≤ 400000) (hs : slots + 6200 ≤ 4000000) (hl : lv_has ls 9 [(4, .int (nI i)), (0, .ref b), (1, .ref (ad 0 0)), (2, .ref mq), (3, .ref o)])
    (kk : ∀ (g2 : Gd) (v2 : Int64) (bd2 w2 : Nat → Nat → Nat) (m2 : Md) (S2 : Int64) (H1 : Heap) (locs1 : List Loc) (ls1 : Array Slot), LWS D cy ad o e0 s g2 v2 bd2 w2 m2 S2 H1 → RS g2 m2 w2 → va_S (LA0 s) s.heap H1 locs1 → bd2 0 0 = mq → lv_has ls1 9 [(4, .int (nI i)), (0, .ref b), (1, .ref (ad 0 0)), (2, .ref mq), (3, .ref o)] → W p l e room_1 s m #[Value.ref b] below meth c H1 locs1 (cells + 450) (slots + 6200) Q (F0 m 2075 ls1 [])) :
    W p l e room_1 s m #[Value.ref b] below meth c H locs cells slots Q (F0 m 1639 ls []) := by
  have hI0 := hI
  have hl0 := C.st
  have hP : Ok (w 0 0) (w 0 1) (w 0 2) (w 0 3) (k12 (fX6_kilosOf g (xs (nI (i + 1)).toNatClampNeg) (xs (nI (i + 2)).toNatClampNeg)).1) (fX6_kilosOf g (xs (nI (i + 1)).toNatClampNeg) (xs (nI (i + 2)).toNatClampNeg)).1 (fX6_kilosOf g (xs (nI (i + 1)).toNatClampNeg) (xs (nI (i + 2)).toNatClampNeg)).2 g (fX7_kilosOf (w 0 0) (w 0 1) (w 0 2) (w 0 3) (w 0 4) mm (xs (nI (i + 1)).toNatClampNeg) (xs (nI (i + 2)).toNatClampNeg)).1 (fX7_kilosOf (w 0 0) (w 0 1) (w 0 2) (w 0 3) (w 0 4) mm (xs (nI (i + 1)).toNatClampNeg) (xs (nI (i + 2)).toNatClampNeg)).2 := by rw [hR.t4]; exact P_kilosOf (T := 0) hR.R hR.I hR.T (xs (nI (i + 1)).toNatClampNeg) (xs (nI (i + 2)).toNatClampNeg)
  have hcd := cd_kilosOf g (xs (nI (i + 1)).toNatClampNeg) (xs (nI (i + 2)).toNatClampNeg)
  have hv : IvC g := ivC_of hR.R hR.I hR.T
  have hLL := C.le
  refine lv_aload_n C.hx C.hb dL_law_1639 rfl (lv_at hl 2 rfl) ?_
  refine lv_aload_n C.hx C.hb dL_law_1640 rfl (lv_at hl 1 rfl) ?_
  refine lv_iload C.hx C.hb dL_law_1641 (lv_at hl 0 rfl) ?_
  refine lv_iconst (v := 1) C.hx C.hb dL_law_1643 (by decide) ?_
  refine lv_iadd C.hx C.hb dL_law_1644 ?_
  refine q_val (v := nI (i + 1)) (nI_add i 1) ?_
  refine va_sld C.hx C.hb C.X C.bl (LA0_no C.bl) hS (vp_in_nI (by omega) (by have := C.le; omega)) dL_law_1645 ?_
  refine lv_aload_n C.hx C.hb dL_law_1646 rfl (lv_at hl 1 rfl) ?_
  refine lv_iload C.hx C.hb dL_law_1647 (lv_at hl 0 rfl) ?_
  refine lv_iconst (v := 2) C.hx C.hb dL_law_1649 (by decide) ?_
  refine lv_iadd C.hx C.hb dL_law_1650 ?_
  refine q_val (v := nI (i + 2)) (nI_add i 2) ?_
  refine va_sld C.hx C.hb C.X C.bl (LA0_no C.bl) hS (vp_in_nI (by omega) (by have := C.le; omega)) dL_law_1651 ?_
  refine lv_aload_n C.hx C.hb dL_law_1652 rfl (lv_at hl 4 rfl) ?_
  refine l_callO (g2 := g) (v2 := (if (fX6_kilosOf g (xs (nI (i + 1)).toNatClampNeg) (xs (nI (i + 2)).toNatClampNeg)).1 = 0 then (fX6_kilosOf g (xs (nI (i + 1)).toNatClampNeg) (xs (nI (i + 2)).toNatClampNeg)).2.toInt64 else vo)) (kv := (k12 (fX6_kilosOf g (xs (nI (i + 1)).toNatClampNeg) (xs (nI (i + 2)).toNatClampNeg)).1)) (As := [.ref (ad 0 0), .int (xs (nI (i + 1)).toNatClampNeg), .int (xs (nI (i + 2)).toNatClampNeg), .ref o]) (rest := []) ⟨C.hx, C.hb, C.ml, C.own, C.ts⟩ (kL_kilosOf l D cy hI hl0 g o vo _ (xs (nI (i + 1)).toNatClampNeg) (xs (nI (i + 2)).toNatClampNeg) hv) (vx_cwSW 4 C.ts gL_law_L_kilosOf rfl rfl rfl (by decide +kernel) ⟨Nat.le_of_ble_eq_true rfl, Nat.le_of_ble_eq_true rfl⟩) hB hL hS rfl hl.1 (Nat.le_of_ble_eq_true rfl) dL_law_1653 ⟨by refine Nat.le_trans (m := 400000) ?_ rc_c; show cells + _ ≤ 400000; omega, by refine Nat.le_trans (m := 4000000) ?_ rc_s; show slots + _ ≤ 4000000; omega⟩ (fun H locs hL hS => ?_)
  refine lv_istore (lv' := [(5, .int (k12 (fX6_kilosOf g (xs (nI (i + 1)).toNatClampNeg) (xs (nI (i + 2)).toNatClampNeg)).1)), (4, .int (nI i)), (0, .ref b), (1, .ref (ad 0 0)), (2, .ref mq), (3, .ref o)]) C.hx C.hb dL_law_1656 hl (by decide) rfl (fun ls hl => ?_)
  refine lv_aload_n C.hx C.hb dL_law_1658 rfl (lv_at hl 4 rfl) ?_
  refine lv_aload_n C.hx C.hb dL_law_1659 rfl (lv_at hl 2 rfl) ?_
  refine lv_iload C.hx C.hb dL_law_1660 (lv_at hl 1 rfl) ?_
  refine lv_iconst (v := 1) C.hx C.hb dL_law_1662 (by decide) ?_
  refine lv_iadd C.hx C.hb dL_law_1663 ?_
  refine q_val (v := nI (i + 1)) (nI_add i 1) ?_
  refine va_sld C.hx C.hb C.X C.bl (LA0_no C.bl) hS (vp_in_nI (by omega) (by have := C.le; omega)) dL_law_1664 ?_
  refine lv_aload_n C.hx C.hb dL_law_1665 rfl (lv_at hl 2 rfl) ?_
  refine lv_iload C.hx C.hb dL_law_1666 (lv_at hl 1 rfl) ?_
  refine lv_iconst (v := 2) C.hx C.hb dL_law_1668 (by decide) ?_
  refine lv_iadd C.hx C.hb dL_law_1669 ?_
  refine q_val (v := nI (i + 2)) (nI_add i 2) ?_
  refine va_sld C.hx C.hb C.X C.bl (LA0_no C.bl) hS (vp_in_nI (by omega) (by have := C.le; omega)) dL_law_1670 ?_
  refine l_callMi (v := (fX7_kilosOf (w 0 0) (w 0 1) (w 0 2) (w 0 3) (w 0 4) mm (xs (nI (i + 1)).toNatClampNeg) (xs (nI (i + 2)).toNatClampNeg)).1) (m2 := (fX7_kilosOf (w 0 0) (w 0 1) (w 0 2) (w 0 3) (w 0 4) mm (xs (nI (i + 1)).toNatClampNeg) (xs (nI (i + 2)).toNatClampNeg)).2) (S2 := SS) hmq (As := [.int (xs (nI (i + 1)).toNatClampNeg), .int (xs (nI (i + 2)).toNatClampNeg)]) (rest := []) ⟨C.hx, C.hb, C.ml, C.own, C.ts⟩ (mX7_kilosOf l D cy e0 mm SS _ (xs (nI (i + 1)).toNatClampNeg) (xs (nI (i + 2)).toNatClampNeg) hR.I hR.t4 hR.cap) (cwV 2 C.ts gL_law_X7_kilosOf rfl rfl rfl (by decide +kernel) ⟨Nat.le_of_ble_eq_true rfl, Nat.le_of_ble_eq_true rfl⟩) hB hL hS rfl hl.1 (Nat.le_of_ble_eq_true rfl) dL_law_1671 ⟨by refine Nat.le_trans (m := 400000) ?_ rc_c; show cells + _ + _ ≤ 400000; omega, by refine Nat.le_trans (m := 4000000) ?_ rc_s; show slots + _ + _ ≤ 4000000; omega⟩ (fun H locs hL hS => ?_)
  refine lv_istore (lv' := [(6, .int (fX7_kilosOf (w 0 0) (w 0 1) (w 0 2) (w 0 3) (w 0 4) mm (xs (nI (i + 1)).toNatClampNeg) (xs (nI (i + 2)).toNatClampNeg)).1), (5, .int (k12 (fX6_kilosOf g (xs (nI (i + 1)).toNatClampNeg) (xs (nI (i + 2)).toNatClampNeg)).1)), (4, .int (nI i)), (0, .ref b), (1, .ref (ad 0 0)), (2, .ref mq), (3, .ref o)]) C.hx C.hb dL_law_1674 hl (by decide) rfl (fun ls hl => ?_)
  refine lv_aload_n C.hx C.hb dL_law_1676 rfl (lv_at hl 5 rfl) ?_
  refine l_callMi (v := (fX7_kilosOf (w 0 0) (w 0 1) (w 0 2) (w 0 3) (w 0 4) mm (xs (nI (i + 1)).toNatClampNeg) (xs (nI (i + 2)).toNatClampNeg)).2 0 20) (m2 := (fX7_kilosOf (w 0 0) (w 0 1) (w 0 2) (w 0 3) (w 0 4) mm (xs (nI (i + 1)).toNatClampNeg) (xs (nI (i + 2)).toNatClampNeg)).2) (S2 := SS) hmq (As := []) (rest := []) ⟨C.hx, C.hb, C.ml, C.own, C.ts⟩ (kX7_thrown l D cy e0 (fX7_kilosOf (w 0 0) (w 0 1) (w 0 2) (w 0 3) (w 0 4) mm (xs (nI (i + 1)).toNatClampNeg) (xs (nI (i + 2)).toNatClampNeg)).2 SS _) (cwV 0 C.ts gL_law_X7_thrown rfl rfl rfl (by decide +kernel) ⟨Nat.le_of_ble_eq_true rfl, Nat.le_of_ble_eq_true rfl⟩) hB hL hS rfl hl.1 (Nat.le_of_ble_eq_true rfl) dL_law_1677 ⟨by refine Nat.le_trans (m := 400000) ?_ rc_c; show cells + _ + _ + _ ≤ 400000; omega, by refine Nat.le_trans (m := 4000000) ?_ rc_s; show slots + _ + _ + _ ≤ 4000000; omega⟩ (fun H locs hL hS => ?_)
  refine lv_iload C.hx C.hb dL_law_1680 (lv_at hl 1 rfl) ?_
  refine lv_icmp_eq (tgt := 1687) C.hx C.hb dL_law_1682 (by decide) (fun _ => ?_) (fun c => absurd hP.1 c)
  have K : W p l e room_1 s m #[Value.ref b] below meth c H locs (cells + 2 + 0 + 0) (slots + 12 + 0 + 0) Q (F0 m 1704 ls []) := by
    refine lv_goto (tgt := 2075) C.hx C.hb dL_law_1704 (by decide) ?_
    refine W.widen (k := cells + 450) (n := slots + 6200) (by omega) (by omega) ?_
    exact kk _ _ _ w _ _ _ _ ls hL (RS.of hP rfl rfl rfl rfl hR.t4 hR.cap) hS hmq (lv_sub hl [2, 3, 4, 5, 6] rfl)
  refine lv_iload C.hx C.hb dL_law_1687 (lv_at hl 1 rfl) ?_
  refine lv_if_ne (tgt := 1704) C.hx C.hb dL_law_1689 (by decide) (fun _ => K) (fun hz => ?_)
  have hc0 : (fX6_kilosOf g (xs (nI (i + 1)).toNatClampNeg) (xs (nI (i + 2)).toNatClampNeg)).1 = 0 := by
    rcases hcd with h | h
    · exact h
    · exact absurd (show (k12 (fX6_kilosOf g (xs (nI (i + 1)).toNatClampNeg) (xs (nI (i + 2)).toNatClampNeg)).1) = 0 from Classical.byContradiction (fun q => by first | exact hz q | exact q hz)) (by rw [h]; decide)
  refine lv_aload_n C.hx C.hb dL_law_1692 rfl (lv_at hl 6 rfl) ?_
  refine lv_iconst (v := 0) C.hx C.hb dL_law_1693 (by decide) ?_
  refine l_lald C.hx C.hb hB hL dL_law_1694 ?_
  refine l_val (v := (fX7_kilosOf (w 0 0) (w 0 1) (w 0 2) (w 0 3) (w 0 4) mm (xs (nI (i + 1)).toNatClampNeg) (xs (nI (i + 2)).toNatClampNeg)).1.toInt64) (by rw [if_pos hc0]; exact congrArg Int32.toInt64 (hP.2.1 hc0)) ?_
  refine lv_iload C.hx C.hb dL_law_1695 (lv_at hl 0 rfl) ?_
  refine lv_i2l C.hx C.hb dL_law_1697 rfl ?_
  refine W.lcmp C.hx C.hb dL_law_1698 ?_
  refine lv_if_eq (tgt := 1704) C.hx C.hb dL_law_1699 (by decide) (fun _ => K) (fun c => absurd (lcmp_self _) c)
set_option maxRecDepth 100000 in
set_option maxHeartbeats 4000000 in
theorem op_many (C : LC p l s m c b L xs) (hI : cI ad) (hB : LWB D cy e0 s) (hL : LWS D cy ad o e0 s g vo bd w mm SS H) (hR : RS g mm w) (hS : va_S (LA0 s) s.heap H locs) (hmq : bd 0 0 = mq) (hi : i + 5 ≤ L) (hc : cells + 450 ≤ 400000) (hs : slots + 6200 ≤ 4000000) (hl : lv_has ls 9 [(4, .int (nI i)), (0, .ref b), (1, .ref (ad 0 0)), (2, .ref mq), (3, .ref o)])
    (kk : ∀ (g2 : Gd) (v2 : Int64) (bd2 w2 : Nat → Nat → Nat) (m2 : Md) (S2 : Int64) (H1 : Heap) (locs1 : List Loc) (ls1 : Array Slot), LWS D cy ad o e0 s g2 v2 bd2 w2 m2 S2 H1 → RS g2 m2 w2 → va_S (LA0 s) s.heap H1 locs1 → bd2 0 0 = mq → lv_has ls1 9 [(4, .int (nI i)), (0, .ref b), (1, .ref (ad 0 0)), (2, .ref mq), (3, .ref o)] → W p l e room_1 s m #[Value.ref b] below meth c H1 locs1 (cells + 450) (slots + 6200) Q (F0 m 2075 ls1 [])) :
    W p l e room_1 s m #[Value.ref b] below meth c H locs cells slots Q (F0 m 1707 ls []) := by
  have hI0 := hI
  have hl0 := C.st
  have hP : Ok (w 0 0) (w 0 1) (w 0 2) (w 0 3) (k23 (fX6_many g (xs (nI (i + 1)).toNatClampNeg)).1) (fX6_many g (xs (nI (i + 1)).toNatClampNeg)).1 (fX6_many g (xs (nI (i + 1)).toNatClampNeg)).2 g (fX7_many (w 0 0) (w 0 1) (w 0 2) (w 0 3) (w 0 4) mm (xs (nI (i + 1)).toNatClampNeg)).1 (fX7_many (w 0 0) (w 0 1) (w 0 2) (w 0 3) (w 0 4) mm (xs (nI (i + 1)).toNatClampNeg)).2 := by rw [hR.t4]; exact P_many (T := 0) hR.R hR.I hR.T (xs (nI (i + 1)).toNatClampNeg)
  have hcd := cd_many g (xs (nI (i + 1)).toNatClampNeg)
  have hv : IvC g := ivC_of hR.R hR.I hR.T
  have hLL := C.le
  refine lv_aload_n C.hx C.hb dL_law_1707 rfl (lv_at hl 2 rfl) ?_
  refine lv_aload_n C.hx C.hb dL_law_1708 rfl (lv_at hl 1 rfl) ?_
  refine lv_iload C.hx C.hb dL_law_1709 (lv_at hl 0 rfl) ?_
  refine lv_iconst (v := 1) C.hx C.hb dL_law_1711 (by decide) ?_
  refine lv_iadd C.hx C.hb dL_law_1712 ?_
  refine q_val (v := nI (i + 1)) (nI_add i 1) ?_
  refine va_sld C.hx C.hb C.X C.bl (LA0_no C.bl) hS (vp_in_nI (by omega) (by have := C.le; omega)) dL_law_1713 ?_
  refine lv_aload_n C.hx C.hb dL_law_1714 rfl (lv_at hl 4 rfl) ?_
  refine l_callO (g2 := g) (v2 := (if (fX6_many g (xs (nI (i + 1)).toNatClampNeg)).1 = 0 then (fX6_many g (xs (nI (i + 1)).toNatClampNeg)).2.toInt64 else vo)) (kv := (k23 (fX6_many g (xs (nI (i + 1)).toNatClampNeg)).1)) (As := [.ref (ad 0 0), .int (xs (nI (i + 1)).toNatClampNeg), .ref o]) (rest := []) ⟨C.hx, C.hb, C.ml, C.own, C.ts⟩ (kL_many l D cy hI hl0 g o vo _ (xs (nI (i + 1)).toNatClampNeg) hv) (vx_cwSW 3 C.ts gL_law_L_many rfl rfl rfl (by decide +kernel) ⟨Nat.le_of_ble_eq_true rfl, Nat.le_of_ble_eq_true rfl⟩) hB hL hS rfl hl.1 (Nat.le_of_ble_eq_true rfl) dL_law_1715 ⟨by refine Nat.le_trans (m := 400000) ?_ rc_c; show cells + _ ≤ 400000; omega, by refine Nat.le_trans (m := 4000000) ?_ rc_s; show slots + _ ≤ 4000000; omega⟩ (fun H locs hL hS => ?_)
  refine lv_istore (lv' := [(5, .int (k23 (fX6_many g (xs (nI (i + 1)).toNatClampNeg)).1)), (4, .int (nI i)), (0, .ref b), (1, .ref (ad 0 0)), (2, .ref mq), (3, .ref o)]) C.hx C.hb dL_law_1718 hl (by decide) rfl (fun ls hl => ?_)
  refine lv_aload_n C.hx C.hb dL_law_1720 rfl (lv_at hl 4 rfl) ?_
  refine lv_aload_n C.hx C.hb dL_law_1721 rfl (lv_at hl 2 rfl) ?_
  refine lv_iload C.hx C.hb dL_law_1722 (lv_at hl 1 rfl) ?_
  refine lv_iconst (v := 1) C.hx C.hb dL_law_1724 (by decide) ?_
  refine lv_iadd C.hx C.hb dL_law_1725 ?_
  refine q_val (v := nI (i + 1)) (nI_add i 1) ?_
  refine va_sld C.hx C.hb C.X C.bl (LA0_no C.bl) hS (vp_in_nI (by omega) (by have := C.le; omega)) dL_law_1726 ?_
  refine l_callMi (v := (fX7_many (w 0 0) (w 0 1) (w 0 2) (w 0 3) (w 0 4) mm (xs (nI (i + 1)).toNatClampNeg)).1) (m2 := (fX7_many (w 0 0) (w 0 1) (w 0 2) (w 0 3) (w 0 4) mm (xs (nI (i + 1)).toNatClampNeg)).2) (S2 := SS) hmq (As := [.int (xs (nI (i + 1)).toNatClampNeg)]) (rest := []) ⟨C.hx, C.hb, C.ml, C.own, C.ts⟩ (mX7_many l D cy e0 mm SS _ (xs (nI (i + 1)).toNatClampNeg) hR.I hR.t4 hR.cap) (cwV 1 C.ts gL_law_X7_many rfl rfl rfl (by decide +kernel) ⟨Nat.le_of_ble_eq_true rfl, Nat.le_of_ble_eq_true rfl⟩) hB hL hS rfl hl.1 (Nat.le_of_ble_eq_true rfl) dL_law_1727 ⟨by refine Nat.le_trans (m := 400000) ?_ rc_c; show cells + _ + _ ≤ 400000; omega, by refine Nat.le_trans (m := 4000000) ?_ rc_s; show slots + _ + _ ≤ 4000000; omega⟩ (fun H locs hL hS => ?_)
  refine lv_istore (lv' := [(6, .int (fX7_many (w 0 0) (w 0 1) (w 0 2) (w 0 3) (w 0 4) mm (xs (nI (i + 1)).toNatClampNeg)).1), (5, .int (k23 (fX6_many g (xs (nI (i + 1)).toNatClampNeg)).1)), (4, .int (nI i)), (0, .ref b), (1, .ref (ad 0 0)), (2, .ref mq), (3, .ref o)]) C.hx C.hb dL_law_1730 hl (by decide) rfl (fun ls hl => ?_)
  refine lv_aload_n C.hx C.hb dL_law_1732 rfl (lv_at hl 5 rfl) ?_
  refine l_callMi (v := (fX7_many (w 0 0) (w 0 1) (w 0 2) (w 0 3) (w 0 4) mm (xs (nI (i + 1)).toNatClampNeg)).2 0 20) (m2 := (fX7_many (w 0 0) (w 0 1) (w 0 2) (w 0 3) (w 0 4) mm (xs (nI (i + 1)).toNatClampNeg)).2) (S2 := SS) hmq (As := []) (rest := []) ⟨C.hx, C.hb, C.ml, C.own, C.ts⟩ (kX7_thrown l D cy e0 (fX7_many (w 0 0) (w 0 1) (w 0 2) (w 0 3) (w 0 4) mm (xs (nI (i + 1)).toNatClampNeg)).2 SS _) (cwV 0 C.ts gL_law_X7_thrown rfl rfl rfl (by decide +kernel) ⟨Nat.le_of_ble_eq_true rfl, Nat.le_of_ble_eq_true rfl⟩) hB hL hS rfl hl.1 (Nat.le_of_ble_eq_true rfl) dL_law_1733 ⟨by refine Nat.le_trans (m := 400000) ?_ rc_c; show cells + _ + _ + _ ≤ 400000; omega, by refine Nat.le_trans (m := 4000000) ?_ rc_s; show slots + _ + _ + _ ≤ 4000000; omega⟩ (fun H locs hL hS => ?_)
  refine lv_iload C.hx C.hb dL_law_1736 (lv_at hl 1 rfl) ?_
  refine lv_icmp_eq (tgt := 1743) C.hx C.hb dL_law_1738 (by decide) (fun _ => ?_) (fun c => absurd hP.1 c)
  have K : W p l e room_1 s m #[Value.ref b] below meth c H locs (cells + 1 + 5 + 0) (slots + 6 + 32 + 0) Q (F0 m 1760 ls []) := by
    refine lv_goto (tgt := 2075) C.hx C.hb dL_law_1760 (by decide) ?_
    refine W.widen (k := cells + 450) (n := slots + 6200) (by omega) (by omega) ?_
    exact kk _ _ _ w _ _ _ _ ls hL (RS.of hP rfl rfl rfl rfl hR.t4 hR.cap) hS hmq (lv_sub hl [2, 3, 4, 5, 6] rfl)
  refine lv_iload C.hx C.hb dL_law_1743 (lv_at hl 1 rfl) ?_
  refine lv_if_ne (tgt := 1760) C.hx C.hb dL_law_1745 (by decide) (fun _ => K) (fun hz => ?_)
  have hc0 : (fX6_many g (xs (nI (i + 1)).toNatClampNeg)).1 = 0 := by
    rcases hcd with h | h
    · exact h
    · exact absurd (show (k23 (fX6_many g (xs (nI (i + 1)).toNatClampNeg)).1) = 0 from Classical.byContradiction (fun q => by first | exact hz q | exact q hz)) (by rw [h]; decide)
  refine lv_aload_n C.hx C.hb dL_law_1748 rfl (lv_at hl 6 rfl) ?_
  refine lv_iconst (v := 0) C.hx C.hb dL_law_1749 (by decide) ?_
  refine l_lald C.hx C.hb hB hL dL_law_1750 ?_
  refine l_val (v := (fX7_many (w 0 0) (w 0 1) (w 0 2) (w 0 3) (w 0 4) mm (xs (nI (i + 1)).toNatClampNeg)).1.toInt64) (by rw [if_pos hc0]; exact congrArg Int32.toInt64 (hP.2.1 hc0)) ?_
  refine lv_iload C.hx C.hb dL_law_1751 (lv_at hl 0 rfl) ?_
  refine lv_i2l C.hx C.hb dL_law_1753 rfl ?_
  refine W.lcmp C.hx C.hb dL_law_1754 ?_
  refine lv_if_eq (tgt := 1760) C.hx C.hb dL_law_1755 (by decide) (fun _ => K) (fun c => absurd (lcmp_self _) c)
set_option maxRecDepth 100000 in
set_option maxHeartbeats 4000000 in
theorem op_readyIn (C : LC p l s m c b L xs) (hI : cI ad) (hB : LWB D cy e0 s) (hL : LWS D cy ad o e0 s g vo bd w mm SS H) (hR : RS g mm w) (hS : va_S (LA0 s) s.heap H locs) (hmq : bd 0 0 = mq) (hi : i + 5 ≤ L) (hc : cells + 450 ≤ 400000) (hs : slots + 6200 ≤ 4000000) (hl : lv_has ls 9 [(4, .int (nI i)), (0, .ref b), (1, .ref (ad 0 0)), (2, .ref mq), (3, .ref o)])
    (kk : ∀ (g2 : Gd) (v2 : Int64) (bd2 w2 : Nat → Nat → Nat) (m2 : Md) (S2 : Int64) (H1 : Heap) (locs1 : List Loc) (ls1 : Array Slot), LWS D cy ad o e0 s g2 v2 bd2 w2 m2 S2 H1 → RS g2 m2 w2 → va_S (LA0 s) s.heap H1 locs1 → bd2 0 0 = mq → lv_has ls1 9 [(4, .int (nI i)), (0, .ref b), (1, .ref (ad 0 0)), (2, .ref mq), (3, .ref o)] → W p l e room_1 s m #[Value.ref b] below meth c H1 locs1 (cells + 450) (slots + 6200) Q (F0 m 2075 ls1 [])) :
    W p l e room_1 s m #[Value.ref b] below meth c H locs cells slots Q (F0 m 1804 ls []) := by
  have hI0 := hI
  have hl0 := C.st
  have hP : Ok (w 0 0) (w 0 1) (w 0 2) (w 0 3) (k12 (fX6_readyIn g (xs (nI (i + 1)).toNatClampNeg) (xs (nI (i + 2)).toNatClampNeg)).1) (fX6_readyIn g (xs (nI (i + 1)).toNatClampNeg) (xs (nI (i + 2)).toNatClampNeg)).1 (fX6_readyIn g (xs (nI (i + 1)).toNatClampNeg) (xs (nI (i + 2)).toNatClampNeg)).2 g (fX7_readyIn (w 0 0) (w 0 1) (w 0 2) (w 0 3) (w 0 4) mm (xs (nI (i + 1)).toNatClampNeg) (xs (nI (i + 2)).toNatClampNeg)).1 (fX7_readyIn (w 0 0) (w 0 1) (w 0 2) (w 0 3) (w 0 4) mm (xs (nI (i + 1)).toNatClampNeg) (xs (nI (i + 2)).toNatClampNeg)).2 := by rw [hR.t4]; exact P_readyIn (T := 0) hR.R hR.I hR.T (xs (nI (i + 1)).toNatClampNeg) (xs (nI (i + 2)).toNatClampNeg)
  have hcd := cd_readyIn g (xs (nI (i + 1)).toNatClampNeg) (xs (nI (i + 2)).toNatClampNeg)
  have hv : IvC g := ivC_of hR.R hR.I hR.T
  have hLL := C.le
  refine lv_aload_n C.hx C.hb dL_law_1804 rfl (lv_at hl 2 rfl) ?_
  refine lv_aload_n C.hx C.hb dL_law_1805 rfl (lv_at hl 1 rfl) ?_
  refine lv_iload C.hx C.hb dL_law_1806 (lv_at hl 0 rfl) ?_
  refine lv_iconst (v := 1) C.hx C.hb dL_law_1808 (by decide) ?_
  refine lv_iadd C.hx C.hb dL_law_1809 ?_
  refine q_val (v := nI (i + 1)) (nI_add i 1) ?_
  refine va_sld C.hx C.hb C.X C.bl (LA0_no C.bl) hS (vp_in_nI (by omega) (by have := C.le; omega)) dL_law_1810 ?_
  refine lv_aload_n C.hx C.hb dL_law_1811 rfl (lv_at hl 1 rfl) ?_
  refine lv_iload C.hx C.hb dL_law_1812 (lv_at hl 0 rfl) ?_
  refine lv_iconst (v := 2) C.hx C.hb dL_law_1814 (by decide) ?_
  refine lv_iadd C.hx C.hb dL_law_1815 ?_
  refine q_val (v := nI (i + 2)) (nI_add i 2) ?_
  refine va_sld C.hx C.hb C.X C.bl (LA0_no C.bl) hS (vp_in_nI (by omega) (by have := C.le; omega)) dL_law_1816 ?_
  refine lv_aload_n C.hx C.hb dL_law_1817 rfl (lv_at hl 4 rfl) ?_
  refine l_callO (g2 := g) (v2 := (if (fX6_readyIn g (xs (nI (i + 1)).toNatClampNeg) (xs (nI (i + 2)).toNatClampNeg)).1 = 0 then (fX6_readyIn g (xs (nI (i + 1)).toNatClampNeg) (xs (nI (i + 2)).toNatClampNeg)).2.toInt64 else vo)) (kv := (k12 (fX6_readyIn g (xs (nI (i + 1)).toNatClampNeg) (xs (nI (i + 2)).toNatClampNeg)).1)) (As := [.ref (ad 0 0), .int (xs (nI (i + 1)).toNatClampNeg), .int (xs (nI (i + 2)).toNatClampNeg), .ref o]) (rest := []) ⟨C.hx, C.hb, C.ml, C.own, C.ts⟩ (kL_readyIn l D cy hI hl0 g o vo _ (xs (nI (i + 1)).toNatClampNeg) (xs (nI (i + 2)).toNatClampNeg) ) (vx_cwSW 4 C.ts gL_law_L_readyIn rfl rfl rfl (by decide +kernel) ⟨Nat.le_of_ble_eq_true rfl, Nat.le_of_ble_eq_true rfl⟩) hB hL hS rfl hl.1 (Nat.le_of_ble_eq_true rfl) dL_law_1818 ⟨by refine Nat.le_trans (m := 400000) ?_ rc_c; show cells + _ ≤ 400000; omega, by refine Nat.le_trans (m := 4000000) ?_ rc_s; show slots + _ ≤ 4000000; omega⟩ (fun H locs hL hS => ?_)
  refine lv_istore (lv' := [(5, .int (k12 (fX6_readyIn g (xs (nI (i + 1)).toNatClampNeg) (xs (nI (i + 2)).toNatClampNeg)).1)), (4, .int (nI i)), (0, .ref b), (1, .ref (ad 0 0)), (2, .ref mq), (3, .ref o)]) C.hx C.hb dL_law_1821 hl (by decide) rfl (fun ls hl => ?_)
  refine lv_aload_n C.hx C.hb dL_law_1823 rfl (lv_at hl 4 rfl) ?_
  refine lv_aload_n C.hx C.hb dL_law_1824 rfl (lv_at hl 2 rfl) ?_
  refine lv_iload C.hx C.hb dL_law_1825 (lv_at hl 1 rfl) ?_
  refine lv_iconst (v := 1) C.hx C.hb dL_law_1827 (by decide) ?_
  refine lv_iadd C.hx C.hb dL_law_1828 ?_
  refine q_val (v := nI (i + 1)) (nI_add i 1) ?_
  refine va_sld C.hx C.hb C.X C.bl (LA0_no C.bl) hS (vp_in_nI (by omega) (by have := C.le; omega)) dL_law_1829 ?_
  refine lv_aload_n C.hx C.hb dL_law_1830 rfl (lv_at hl 2 rfl) ?_
  refine lv_iload C.hx C.hb dL_law_1831 (lv_at hl 1 rfl) ?_
  refine lv_iconst (v := 2) C.hx C.hb dL_law_1833 (by decide) ?_
  refine lv_iadd C.hx C.hb dL_law_1834 ?_
  refine q_val (v := nI (i + 2)) (nI_add i 2) ?_
  refine va_sld C.hx C.hb C.X C.bl (LA0_no C.bl) hS (vp_in_nI (by omega) (by have := C.le; omega)) dL_law_1835 ?_
  refine l_callMi (v := (fX7_readyIn (w 0 0) (w 0 1) (w 0 2) (w 0 3) (w 0 4) mm (xs (nI (i + 1)).toNatClampNeg) (xs (nI (i + 2)).toNatClampNeg)).1) (m2 := (fX7_readyIn (w 0 0) (w 0 1) (w 0 2) (w 0 3) (w 0 4) mm (xs (nI (i + 1)).toNatClampNeg) (xs (nI (i + 2)).toNatClampNeg)).2) (S2 := SS) hmq (As := [.int (xs (nI (i + 1)).toNatClampNeg), .int (xs (nI (i + 2)).toNatClampNeg)]) (rest := []) ⟨C.hx, C.hb, C.ml, C.own, C.ts⟩ (mX7_readyIn l D cy e0 mm SS _ (xs (nI (i + 1)).toNatClampNeg) (xs (nI (i + 2)).toNatClampNeg) hR.I hR.t4 hR.cap) (cwV 2 C.ts gL_law_X7_readyIn rfl rfl rfl (by decide +kernel) ⟨Nat.le_of_ble_eq_true rfl, Nat.le_of_ble_eq_true rfl⟩) hB hL hS rfl hl.1 (Nat.le_of_ble_eq_true rfl) dL_law_1836 ⟨by refine Nat.le_trans (m := 400000) ?_ rc_c; show cells + _ + _ ≤ 400000; omega, by refine Nat.le_trans (m := 4000000) ?_ rc_s; show slots + _ + _ ≤ 4000000; omega⟩ (fun H locs hL hS => ?_)
  refine lv_istore (lv' := [(6, .int (fX7_readyIn (w 0 0) (w 0 1) (w 0 2) (w 0 3) (w 0 4) mm (xs (nI (i + 1)).toNatClampNeg) (xs (nI (i + 2)).toNatClampNeg)).1), (5, .int (k12 (fX6_readyIn g (xs (nI (i + 1)).toNatClampNeg) (xs (nI (i + 2)).toNatClampNeg)).1)), (4, .int (nI i)), (0, .ref b), (1, .ref (ad 0 0)), (2, .ref mq), (3, .ref o)]) C.hx C.hb dL_law_1839 hl (by decide) rfl (fun ls hl => ?_)
  refine lv_aload_n C.hx C.hb dL_law_1841 rfl (lv_at hl 5 rfl) ?_
  refine l_callMi (v := (fX7_readyIn (w 0 0) (w 0 1) (w 0 2) (w 0 3) (w 0 4) mm (xs (nI (i + 1)).toNatClampNeg) (xs (nI (i + 2)).toNatClampNeg)).2 0 20) (m2 := (fX7_readyIn (w 0 0) (w 0 1) (w 0 2) (w 0 3) (w 0 4) mm (xs (nI (i + 1)).toNatClampNeg) (xs (nI (i + 2)).toNatClampNeg)).2) (S2 := SS) hmq (As := []) (rest := []) ⟨C.hx, C.hb, C.ml, C.own, C.ts⟩ (kX7_thrown l D cy e0 (fX7_readyIn (w 0 0) (w 0 1) (w 0 2) (w 0 3) (w 0 4) mm (xs (nI (i + 1)).toNatClampNeg) (xs (nI (i + 2)).toNatClampNeg)).2 SS _) (cwV 0 C.ts gL_law_X7_thrown rfl rfl rfl (by decide +kernel) ⟨Nat.le_of_ble_eq_true rfl, Nat.le_of_ble_eq_true rfl⟩) hB hL hS rfl hl.1 (Nat.le_of_ble_eq_true rfl) dL_law_1842 ⟨by refine Nat.le_trans (m := 400000) ?_ rc_c; show cells + _ + _ + _ ≤ 400000; omega, by refine Nat.le_trans (m := 4000000) ?_ rc_s; show slots + _ + _ + _ ≤ 4000000; omega⟩ (fun H locs hL hS => ?_)
  refine lv_iload C.hx C.hb dL_law_1845 (lv_at hl 1 rfl) ?_
  refine lv_icmp_eq (tgt := 1852) C.hx C.hb dL_law_1847 (by decide) (fun _ => ?_) (fun c => absurd hP.1 c)
  have K : W p l e room_1 s m #[Value.ref b] below meth c H locs (cells + 2 + 0 + 0) (slots + 12 + 0 + 0) Q (F0 m 1869 ls []) := by
    refine lv_goto (tgt := 2075) C.hx C.hb dL_law_1869 (by decide) ?_
    refine W.widen (k := cells + 450) (n := slots + 6200) (by omega) (by omega) ?_
    exact kk _ _ _ w _ _ _ _ ls hL (RS.of hP rfl rfl rfl rfl hR.t4 hR.cap) hS hmq (lv_sub hl [2, 3, 4, 5, 6] rfl)
  refine lv_iload C.hx C.hb dL_law_1852 (lv_at hl 1 rfl) ?_
  refine lv_if_ne (tgt := 1869) C.hx C.hb dL_law_1854 (by decide) (fun _ => K) (fun hz => ?_)
  have hc0 : (fX6_readyIn g (xs (nI (i + 1)).toNatClampNeg) (xs (nI (i + 2)).toNatClampNeg)).1 = 0 := by
    rcases hcd with h | h | h
    · exact h
    · exact absurd (show (k12 (fX6_readyIn g (xs (nI (i + 1)).toNatClampNeg) (xs (nI (i + 2)).toNatClampNeg)).1) = 0 from Classical.byContradiction (fun q => by first | exact hz q | exact q hz)) (by rw [h]; decide)
    · exact absurd (show (k12 (fX6_readyIn g (xs (nI (i + 1)).toNatClampNeg) (xs (nI (i + 2)).toNatClampNeg)).1) = 0 from Classical.byContradiction (fun q => by first | exact hz q | exact q hz)) (by rw [h]; decide)
  refine lv_aload_n C.hx C.hb dL_law_1857 rfl (lv_at hl 6 rfl) ?_
  refine lv_iconst (v := 0) C.hx C.hb dL_law_1858 (by decide) ?_
  refine l_lald C.hx C.hb hB hL dL_law_1859 ?_
  refine l_val (v := (fX7_readyIn (w 0 0) (w 0 1) (w 0 2) (w 0 3) (w 0 4) mm (xs (nI (i + 1)).toNatClampNeg) (xs (nI (i + 2)).toNatClampNeg)).1.toInt64) (by rw [if_pos hc0]; exact congrArg Int32.toInt64 (hP.2.1 hc0)) ?_
  refine lv_iload C.hx C.hb dL_law_1860 (lv_at hl 0 rfl) ?_
  refine lv_i2l C.hx C.hb dL_law_1862 rfl ?_
  refine W.lcmp C.hx C.hb dL_law_1863 ?_
  refine lv_if_eq (tgt := 1869) C.hx C.hb dL_law_1864 (by decide) (fun _ => K) (fun c => absurd (lcmp_self _) c)
set_option maxRecDepth 100000 in
set_option maxHeartbeats 4000000 in
theorem op_dryIn (C : LC p l s m c b L xs) (hI : cI ad) (hB : LWB D cy e0 s) (hL : LWS D cy ad o e0 s g vo bd w mm SS H) (hR : RS g mm w) (hS : va_S (LA0 s) s.heap H locs) (hmq : bd 0 0 = mq) (hi : i + 5 ≤ L) (hc : cells + 450 ≤ 400000) (hs : slots + 6200 ≤ 4000000) (hl : lv_has ls 9 [(4, .int (nI i)), (0, .ref b), (1, .ref (ad 0 0)), (2, .ref mq), (3, .ref o)])
    (kk : ∀ (g2 : Gd) (v2 : Int64) (bd2 w2 : Nat → Nat → Nat) (m2 : Md) (S2 : Int64) (H1 : Heap) (locs1 : List Loc) (ls1 : Array Slot), LWS D cy ad o e0 s g2 v2 bd2 w2 m2 S2 H1 → RS g2 m2 w2 → va_S (LA0 s) s.heap H1 locs1 → bd2 0 0 = mq → lv_has ls1 9 [(4, .int (nI i)), (0, .ref b), (1, .ref (ad 0 0)), (2, .ref mq), (3, .ref o)] → W p l e room_1 s m #[Value.ref b] below meth c H1 locs1 (cells + 450) (slots + 6200) Q (F0 m 2075 ls1 [])) :
    W p l e room_1 s m #[Value.ref b] below meth c H locs cells slots Q (F0 m 1872 ls []) := by
  have hI0 := hI
  have hl0 := C.st
  have hP : Ok (w 0 0) (w 0 1) (w 0 2) (w 0 3) (k12 (fX6_dryIn g (xs (nI (i + 1)).toNatClampNeg) (xs (nI (i + 2)).toNatClampNeg)).1) (fX6_dryIn g (xs (nI (i + 1)).toNatClampNeg) (xs (nI (i + 2)).toNatClampNeg)).1 (fX6_dryIn g (xs (nI (i + 1)).toNatClampNeg) (xs (nI (i + 2)).toNatClampNeg)).2 g (fX7_dryIn (w 0 0) (w 0 1) (w 0 2) (w 0 3) (w 0 4) mm (xs (nI (i + 1)).toNatClampNeg) (xs (nI (i + 2)).toNatClampNeg)).1 (fX7_dryIn (w 0 0) (w 0 1) (w 0 2) (w 0 3) (w 0 4) mm (xs (nI (i + 1)).toNatClampNeg) (xs (nI (i + 2)).toNatClampNeg)).2 := by rw [hR.t4]; exact P_dryIn (T := 0) hR.R hR.I hR.T (xs (nI (i + 1)).toNatClampNeg) (xs (nI (i + 2)).toNatClampNeg)
  have hcd := cd_dryIn g (xs (nI (i + 1)).toNatClampNeg) (xs (nI (i + 2)).toNatClampNeg)
  have hv : IvC g := ivC_of hR.R hR.I hR.T
  have hLL := C.le
  refine lv_aload_n C.hx C.hb dL_law_1872 rfl (lv_at hl 2 rfl) ?_
  refine lv_aload_n C.hx C.hb dL_law_1873 rfl (lv_at hl 1 rfl) ?_
  refine lv_iload C.hx C.hb dL_law_1874 (lv_at hl 0 rfl) ?_
  refine lv_iconst (v := 1) C.hx C.hb dL_law_1876 (by decide) ?_
  refine lv_iadd C.hx C.hb dL_law_1877 ?_
  refine q_val (v := nI (i + 1)) (nI_add i 1) ?_
  refine va_sld C.hx C.hb C.X C.bl (LA0_no C.bl) hS (vp_in_nI (by omega) (by have := C.le; omega)) dL_law_1878 ?_
  refine lv_aload_n C.hx C.hb dL_law_1879 rfl (lv_at hl 1 rfl) ?_
  refine lv_iload C.hx C.hb dL_law_1880 (lv_at hl 0 rfl) ?_
  refine lv_iconst (v := 2) C.hx C.hb dL_law_1882 (by decide) ?_
  refine lv_iadd C.hx C.hb dL_law_1883 ?_
  refine q_val (v := nI (i + 2)) (nI_add i 2) ?_
  refine va_sld C.hx C.hb C.X C.bl (LA0_no C.bl) hS (vp_in_nI (by omega) (by have := C.le; omega)) dL_law_1884 ?_
  refine lv_aload_n C.hx C.hb dL_law_1885 rfl (lv_at hl 4 rfl) ?_
  refine l_callO (g2 := g) (v2 := (if (fX6_dryIn g (xs (nI (i + 1)).toNatClampNeg) (xs (nI (i + 2)).toNatClampNeg)).1 = 0 then (fX6_dryIn g (xs (nI (i + 1)).toNatClampNeg) (xs (nI (i + 2)).toNatClampNeg)).2.toInt64 else vo)) (kv := (k12 (fX6_dryIn g (xs (nI (i + 1)).toNatClampNeg) (xs (nI (i + 2)).toNatClampNeg)).1)) (As := [.ref (ad 0 0), .int (xs (nI (i + 1)).toNatClampNeg), .int (xs (nI (i + 2)).toNatClampNeg), .ref o]) (rest := []) ⟨C.hx, C.hb, C.ml, C.own, C.ts⟩ (kL_dryIn l D cy hI hl0 g o vo _ (xs (nI (i + 1)).toNatClampNeg) (xs (nI (i + 2)).toNatClampNeg) hv) (vx_cwSW 4 C.ts gL_law_L_dryIn rfl rfl rfl (by decide +kernel) ⟨Nat.le_of_ble_eq_true rfl, Nat.le_of_ble_eq_true rfl⟩) hB hL hS rfl hl.1 (Nat.le_of_ble_eq_true rfl) dL_law_1886 ⟨by refine Nat.le_trans (m := 400000) ?_ rc_c; show cells + _ ≤ 400000; omega, by refine Nat.le_trans (m := 4000000) ?_ rc_s; show slots + _ ≤ 4000000; omega⟩ (fun H locs hL hS => ?_)
  refine lv_istore (lv' := [(5, .int (k12 (fX6_dryIn g (xs (nI (i + 1)).toNatClampNeg) (xs (nI (i + 2)).toNatClampNeg)).1)), (4, .int (nI i)), (0, .ref b), (1, .ref (ad 0 0)), (2, .ref mq), (3, .ref o)]) C.hx C.hb dL_law_1889 hl (by decide) rfl (fun ls hl => ?_)
  refine lv_aload_n C.hx C.hb dL_law_1891 rfl (lv_at hl 4 rfl) ?_
  refine lv_aload_n C.hx C.hb dL_law_1892 rfl (lv_at hl 2 rfl) ?_
  refine lv_iload C.hx C.hb dL_law_1893 (lv_at hl 1 rfl) ?_
  refine lv_iconst (v := 1) C.hx C.hb dL_law_1895 (by decide) ?_
  refine lv_iadd C.hx C.hb dL_law_1896 ?_
  refine q_val (v := nI (i + 1)) (nI_add i 1) ?_
  refine va_sld C.hx C.hb C.X C.bl (LA0_no C.bl) hS (vp_in_nI (by omega) (by have := C.le; omega)) dL_law_1897 ?_
  refine lv_aload_n C.hx C.hb dL_law_1898 rfl (lv_at hl 2 rfl) ?_
  refine lv_iload C.hx C.hb dL_law_1899 (lv_at hl 1 rfl) ?_
  refine lv_iconst (v := 2) C.hx C.hb dL_law_1901 (by decide) ?_
  refine lv_iadd C.hx C.hb dL_law_1902 ?_
  refine q_val (v := nI (i + 2)) (nI_add i 2) ?_
  refine va_sld C.hx C.hb C.X C.bl (LA0_no C.bl) hS (vp_in_nI (by omega) (by have := C.le; omega)) dL_law_1903 ?_
  refine l_callMi (v := (fX7_dryIn (w 0 0) (w 0 1) (w 0 2) (w 0 3) (w 0 4) mm (xs (nI (i + 1)).toNatClampNeg) (xs (nI (i + 2)).toNatClampNeg)).1) (m2 := (fX7_dryIn (w 0 0) (w 0 1) (w 0 2) (w 0 3) (w 0 4) mm (xs (nI (i + 1)).toNatClampNeg) (xs (nI (i + 2)).toNatClampNeg)).2) (S2 := SS) hmq (As := [.int (xs (nI (i + 1)).toNatClampNeg), .int (xs (nI (i + 2)).toNatClampNeg)]) (rest := []) ⟨C.hx, C.hb, C.ml, C.own, C.ts⟩ (mX7_dryIn l D cy e0 mm SS _ (xs (nI (i + 1)).toNatClampNeg) (xs (nI (i + 2)).toNatClampNeg) hR.I hR.t4 hR.cap) (cwV 2 C.ts gL_law_X7_dryIn rfl rfl rfl (by decide +kernel) ⟨Nat.le_of_ble_eq_true rfl, Nat.le_of_ble_eq_true rfl⟩) hB hL hS rfl hl.1 (Nat.le_of_ble_eq_true rfl) dL_law_1904 ⟨by refine Nat.le_trans (m := 400000) ?_ rc_c; show cells + _ + _ ≤ 400000; omega, by refine Nat.le_trans (m := 4000000) ?_ rc_s; show slots + _ + _ ≤ 4000000; omega⟩ (fun H locs hL hS => ?_)
  refine lv_istore (lv' := [(6, .int (fX7_dryIn (w 0 0) (w 0 1) (w 0 2) (w 0 3) (w 0 4) mm (xs (nI (i + 1)).toNatClampNeg) (xs (nI (i + 2)).toNatClampNeg)).1), (5, .int (k12 (fX6_dryIn g (xs (nI (i + 1)).toNatClampNeg) (xs (nI (i + 2)).toNatClampNeg)).1)), (4, .int (nI i)), (0, .ref b), (1, .ref (ad 0 0)), (2, .ref mq), (3, .ref o)]) C.hx C.hb dL_law_1907 hl (by decide) rfl (fun ls hl => ?_)
  refine lv_aload_n C.hx C.hb dL_law_1909 rfl (lv_at hl 5 rfl) ?_
  refine l_callMi (v := (fX7_dryIn (w 0 0) (w 0 1) (w 0 2) (w 0 3) (w 0 4) mm (xs (nI (i + 1)).toNatClampNeg) (xs (nI (i + 2)).toNatClampNeg)).2 0 20) (m2 := (fX7_dryIn (w 0 0) (w 0 1) (w 0 2) (w 0 3) (w 0 4) mm (xs (nI (i + 1)).toNatClampNeg) (xs (nI (i + 2)).toNatClampNeg)).2) (S2 := SS) hmq (As := []) (rest := []) ⟨C.hx, C.hb, C.ml, C.own, C.ts⟩ (kX7_thrown l D cy e0 (fX7_dryIn (w 0 0) (w 0 1) (w 0 2) (w 0 3) (w 0 4) mm (xs (nI (i + 1)).toNatClampNeg) (xs (nI (i + 2)).toNatClampNeg)).2 SS _) (cwV 0 C.ts gL_law_X7_thrown rfl rfl rfl (by decide +kernel) ⟨Nat.le_of_ble_eq_true rfl, Nat.le_of_ble_eq_true rfl⟩) hB hL hS rfl hl.1 (Nat.le_of_ble_eq_true rfl) dL_law_1910 ⟨by refine Nat.le_trans (m := 400000) ?_ rc_c; show cells + _ + _ + _ ≤ 400000; omega, by refine Nat.le_trans (m := 4000000) ?_ rc_s; show slots + _ + _ + _ ≤ 4000000; omega⟩ (fun H locs hL hS => ?_)
  refine lv_iload C.hx C.hb dL_law_1913 (lv_at hl 1 rfl) ?_
  refine lv_icmp_eq (tgt := 1920) C.hx C.hb dL_law_1915 (by decide) (fun _ => ?_) (fun c => absurd hP.1 c)
  have K : W p l e room_1 s m #[Value.ref b] below meth c H locs (cells + 2 + 1 + 0) (slots + 12 + 23 + 0) Q (F0 m 1937 ls []) := by
    refine lv_goto (tgt := 2075) C.hx C.hb dL_law_1937 (by decide) ?_
    refine W.widen (k := cells + 450) (n := slots + 6200) (by omega) (by omega) ?_
    exact kk _ _ _ w _ _ _ _ ls hL (RS.of hP rfl rfl rfl rfl hR.t4 hR.cap) hS hmq (lv_sub hl [2, 3, 4, 5, 6] rfl)
  refine lv_iload C.hx C.hb dL_law_1920 (lv_at hl 1 rfl) ?_
  refine lv_if_ne (tgt := 1937) C.hx C.hb dL_law_1922 (by decide) (fun _ => K) (fun hz => ?_)
  have hc0 : (fX6_dryIn g (xs (nI (i + 1)).toNatClampNeg) (xs (nI (i + 2)).toNatClampNeg)).1 = 0 := by
    rcases hcd with h | h | h
    · exact h
    · exact absurd (show (k12 (fX6_dryIn g (xs (nI (i + 1)).toNatClampNeg) (xs (nI (i + 2)).toNatClampNeg)).1) = 0 from Classical.byContradiction (fun q => by first | exact hz q | exact q hz)) (by rw [h]; decide)
    · exact absurd (show (k12 (fX6_dryIn g (xs (nI (i + 1)).toNatClampNeg) (xs (nI (i + 2)).toNatClampNeg)).1) = 0 from Classical.byContradiction (fun q => by first | exact hz q | exact q hz)) (by rw [h]; decide)
  refine lv_aload_n C.hx C.hb dL_law_1925 rfl (lv_at hl 6 rfl) ?_
  refine lv_iconst (v := 0) C.hx C.hb dL_law_1926 (by decide) ?_
  refine l_lald C.hx C.hb hB hL dL_law_1927 ?_
  refine l_val (v := (fX7_dryIn (w 0 0) (w 0 1) (w 0 2) (w 0 3) (w 0 4) mm (xs (nI (i + 1)).toNatClampNeg) (xs (nI (i + 2)).toNatClampNeg)).1.toInt64) (by rw [if_pos hc0]; exact congrArg Int32.toInt64 (hP.2.1 hc0)) ?_
  refine lv_iload C.hx C.hb dL_law_1928 (lv_at hl 0 rfl) ?_
  refine lv_i2l C.hx C.hb dL_law_1930 rfl ?_
  refine W.lcmp C.hx C.hb dL_law_1931 ?_
  refine lv_if_eq (tgt := 1937) C.hx C.hb dL_law_1932 (by decide) (fun _ => K) (fun c => absurd (lcmp_self _) c)
set_option maxRecDepth 100000 in
set_option maxHeartbeats 4000000 in
theorem op_wouldShare (C : LC p l s m c b L xs) (hI : cI ad) (hB : LWB D cy e0 s) (hL : LWS D cy ad o e0 s g vo bd w mm SS H) (hR : RS g mm w) (hS : va_S (LA0 s) s.heap H locs) (hmq : bd 0 0 = mq) (hi : i + 5 ≤ L) (hc : cells + 450 ≤ 400000) (hs : slots + 6200 ≤ 4000000) (hl : lv_has ls 9 [(4, .int (nI i)), (0, .ref b), (1, .ref (ad 0 0)), (2, .ref mq), (3, .ref o)])
    (kk : ∀ (g2 : Gd) (v2 : Int64) (bd2 w2 : Nat → Nat → Nat) (m2 : Md) (S2 : Int64) (H1 : Heap) (locs1 : List Loc) (ls1 : Array Slot), LWS D cy ad o e0 s g2 v2 bd2 w2 m2 S2 H1 → RS g2 m2 w2 → va_S (LA0 s) s.heap H1 locs1 → bd2 0 0 = mq → lv_has ls1 9 [(4, .int (nI i)), (0, .ref b), (1, .ref (ad 0 0)), (2, .ref mq), (3, .ref o)] → W p l e room_1 s m #[Value.ref b] below meth c H1 locs1 (cells + 450) (slots + 6200) Q (F0 m 2075 ls1 [])) :
    W p l e room_1 s m #[Value.ref b] below meth c H locs cells slots Q (F0 m 1953 ls []) := by
  have hI0 := hI
  have hl0 := C.st
  have hP : Ok (w 0 0) (w 0 1) (w 0 2) (w 0 3) (k12 (fX6_wouldShare g (xs (nI (i + 1)).toNatClampNeg) (xs (nI (i + 2)).toNatClampNeg) (xs (nI (i + 3)).toNatClampNeg) (if (xs (nI (i + 4)).toNatClampNeg) = 0 then (0 : Int32) else 1)).1) (fX6_wouldShare g (xs (nI (i + 1)).toNatClampNeg) (xs (nI (i + 2)).toNatClampNeg) (xs (nI (i + 3)).toNatClampNeg) (if (xs (nI (i + 4)).toNatClampNeg) = 0 then (0 : Int32) else 1)).1 (fX6_wouldShare g (xs (nI (i + 1)).toNatClampNeg) (xs (nI (i + 2)).toNatClampNeg) (xs (nI (i + 3)).toNatClampNeg) (if (xs (nI (i + 4)).toNatClampNeg) = 0 then (0 : Int32) else 1)).2 g (fX7_wouldShare (w 0 0) (w 0 1) (w 0 2) (w 0 3) (w 0 4) mm (xs (nI (i + 1)).toNatClampNeg) (xs (nI (i + 2)).toNatClampNeg) (xs (nI (i + 3)).toNatClampNeg) (if (xs (nI (i + 4)).toNatClampNeg) = 0 then (0 : Int32) else 1)).1 (fX7_wouldShare (w 0 0) (w 0 1) (w 0 2) (w 0 3) (w 0 4) mm (xs (nI (i + 1)).toNatClampNeg) (xs (nI (i + 2)).toNatClampNeg) (xs (nI (i + 3)).toNatClampNeg) (if (xs (nI (i + 4)).toNatClampNeg) = 0 then (0 : Int32) else 1)).2 := by rw [hR.t4]; exact P_wouldShare (T := 0) hR.R hR.I hR.T (xs (nI (i + 1)).toNatClampNeg) (xs (nI (i + 2)).toNatClampNeg) (xs (nI (i + 3)).toNatClampNeg) (if (xs (nI (i + 4)).toNatClampNeg) = 0 then (0 : Int32) else 1)
  have hcd := cd_wouldShare g (xs (nI (i + 1)).toNatClampNeg) (xs (nI (i + 2)).toNatClampNeg) (xs (nI (i + 3)).toNatClampNeg) (if (xs (nI (i + 4)).toNatClampNeg) = 0 then (0 : Int32) else 1)
  have hv : IvC g := ivC_of hR.R hR.I hR.T
  have hLL := C.le
  refine lv_aload_n C.hx C.hb dL_law_1953 rfl (lv_at hl 2 rfl) ?_
  refine lv_aload_n C.hx C.hb dL_law_1954 rfl (lv_at hl 1 rfl) ?_
  refine lv_iload C.hx C.hb dL_law_1955 (lv_at hl 0 rfl) ?_
  refine lv_iconst (v := 1) C.hx C.hb dL_law_1957 (by decide) ?_
  refine lv_iadd C.hx C.hb dL_law_1958 ?_
  refine q_val (v := nI (i + 1)) (nI_add i 1) ?_
  refine va_sld C.hx C.hb C.X C.bl (LA0_no C.bl) hS (vp_in_nI (by omega) (by have := C.le; omega)) dL_law_1959 ?_
  refine lv_aload_n C.hx C.hb dL_law_1960 rfl (lv_at hl 1 rfl) ?_
  refine lv_iload C.hx C.hb dL_law_1961 (lv_at hl 0 rfl) ?_
  refine lv_iconst (v := 2) C.hx C.hb dL_law_1963 (by decide) ?_
  refine lv_iadd C.hx C.hb dL_law_1964 ?_
  refine q_val (v := nI (i + 2)) (nI_add i 2) ?_
  refine va_sld C.hx C.hb C.X C.bl (LA0_no C.bl) hS (vp_in_nI (by omega) (by have := C.le; omega)) dL_law_1965 ?_
  refine lv_aload_n C.hx C.hb dL_law_1966 rfl (lv_at hl 1 rfl) ?_
  refine lv_iload C.hx C.hb dL_law_1967 (lv_at hl 0 rfl) ?_
  refine lv_iconst (v := 3) C.hx C.hb dL_law_1969 (by decide) ?_
  refine lv_iadd C.hx C.hb dL_law_1970 ?_
  refine q_val (v := nI (i + 3)) (nI_add i 3) ?_
  refine va_sld C.hx C.hb C.X C.bl (LA0_no C.bl) hS (vp_in_nI (by omega) (by have := C.le; omega)) dL_law_1971 ?_
  refine lv_aload_n C.hx C.hb dL_law_1972 rfl (lv_at hl 1 rfl) ?_
  refine lv_iload C.hx C.hb dL_law_1973 (lv_at hl 0 rfl) ?_
  refine lv_iconst (v := 4) C.hx C.hb dL_law_1975 (by decide) ?_
  refine lv_iadd C.hx C.hb dL_law_1976 ?_
  refine q_val (v := nI (i + 4)) (nI_add i 4) ?_
  refine va_sld C.hx C.hb C.X C.bl (LA0_no C.bl) hS (vp_in_nI (by omega) (by have := C.le; omega)) dL_law_1977 ?_
  refine l_bool C.hx C.hb dL_law_1978 dL_law_1981 dL_law_1982 dL_law_1985 ?_
  refine lv_aload_n C.hx C.hb dL_law_1986 rfl (lv_at hl 4 rfl) ?_
  refine l_callO (g2 := g) (v2 := (if (fX6_wouldShare g (xs (nI (i + 1)).toNatClampNeg) (xs (nI (i + 2)).toNatClampNeg) (xs (nI (i + 3)).toNatClampNeg) (if (xs (nI (i + 4)).toNatClampNeg) = 0 then (0 : Int32) else 1)).1 = 0 then (fX6_wouldShare g (xs (nI (i + 1)).toNatClampNeg) (xs (nI (i + 2)).toNatClampNeg) (xs (nI (i + 3)).toNatClampNeg) (if (xs (nI (i + 4)).toNatClampNeg) = 0 then (0 : Int32) else 1)).2.toInt64 else vo)) (kv := (k12 (fX6_wouldShare g (xs (nI (i + 1)).toNatClampNeg) (xs (nI (i + 2)).toNatClampNeg) (xs (nI (i + 3)).toNatClampNeg) (if (xs (nI (i + 4)).toNatClampNeg) = 0 then (0 : Int32) else 1)).1)) (As := [.ref (ad 0 0), .int (xs (nI (i + 1)).toNatClampNeg), .int (xs (nI (i + 2)).toNatClampNeg), .int (xs (nI (i + 3)).toNatClampNeg), .int (if (xs (nI (i + 4)).toNatClampNeg) = 0 then (0 : Int32) else 1), .ref o]) (rest := []) ⟨C.hx, C.hb, C.ml, C.own, C.ts⟩ (kL_wouldShare l D cy hI hl0 g o vo _ (xs (nI (i + 1)).toNatClampNeg) (xs (nI (i + 2)).toNatClampNeg) (xs (nI (i + 3)).toNatClampNeg) (if (xs (nI (i + 4)).toNatClampNeg) = 0 then (0 : Int32) else 1) hv) (vx_cwSW 6 C.ts gL_law_L_wouldShare rfl rfl rfl (by decide +kernel) ⟨Nat.le_of_ble_eq_true rfl, Nat.le_of_ble_eq_true rfl⟩) hB hL hS rfl hl.1 (Nat.le_of_ble_eq_true rfl) dL_law_1987 ⟨by refine Nat.le_trans (m := 400000) ?_ rc_c; show cells + _ ≤ 400000; omega, by refine Nat.le_trans (m := 4000000) ?_ rc_s; show slots + _ ≤ 4000000; omega⟩ (fun H locs hL hS => ?_)
  refine lv_istore (lv' := [(5, .int (k12 (fX6_wouldShare g (xs (nI (i + 1)).toNatClampNeg) (xs (nI (i + 2)).toNatClampNeg) (xs (nI (i + 3)).toNatClampNeg) (if (xs (nI (i + 4)).toNatClampNeg) = 0 then (0 : Int32) else 1)).1)), (4, .int (nI i)), (0, .ref b), (1, .ref (ad 0 0)), (2, .ref mq), (3, .ref o)]) C.hx C.hb dL_law_1990 hl (by decide) rfl (fun ls hl => ?_)
  refine lv_aload_n C.hx C.hb dL_law_1992 rfl (lv_at hl 4 rfl) ?_
  refine lv_aload_n C.hx C.hb dL_law_1993 rfl (lv_at hl 2 rfl) ?_
  refine lv_iload C.hx C.hb dL_law_1994 (lv_at hl 1 rfl) ?_
  refine lv_iconst (v := 1) C.hx C.hb dL_law_1996 (by decide) ?_
  refine lv_iadd C.hx C.hb dL_law_1997 ?_
  refine q_val (v := nI (i + 1)) (nI_add i 1) ?_
  refine va_sld C.hx C.hb C.X C.bl (LA0_no C.bl) hS (vp_in_nI (by omega) (by have := C.le; omega)) dL_law_1998 ?_
  refine lv_aload_n C.hx C.hb dL_law_1999 rfl (lv_at hl 2 rfl) ?_
  refine lv_iload C.hx C.hb dL_law_2000 (lv_at hl 1 rfl) ?_
  refine lv_iconst (v := 2) C.hx C.hb dL_law_2002 (by decide) ?_
  refine lv_iadd C.hx C.hb dL_law_2003 ?_
  refine q_val (v := nI (i + 2)) (nI_add i 2) ?_
  refine va_sld C.hx C.hb C.X C.bl (LA0_no C.bl) hS (vp_in_nI (by omega) (by have := C.le; omega)) dL_law_2004 ?_
  refine lv_aload_n C.hx C.hb dL_law_2005 rfl (lv_at hl 2 rfl) ?_
  refine lv_iload C.hx C.hb dL_law_2006 (lv_at hl 1 rfl) ?_
  refine lv_iconst (v := 3) C.hx C.hb dL_law_2008 (by decide) ?_
  refine lv_iadd C.hx C.hb dL_law_2009 ?_
  refine q_val (v := nI (i + 3)) (nI_add i 3) ?_
  refine va_sld C.hx C.hb C.X C.bl (LA0_no C.bl) hS (vp_in_nI (by omega) (by have := C.le; omega)) dL_law_2010 ?_
  refine lv_aload_n C.hx C.hb dL_law_2011 rfl (lv_at hl 2 rfl) ?_
  refine lv_iload C.hx C.hb dL_law_2012 (lv_at hl 1 rfl) ?_
  refine lv_iconst (v := 4) C.hx C.hb dL_law_2014 (by decide) ?_
  refine lv_iadd C.hx C.hb dL_law_2015 ?_
  refine q_val (v := nI (i + 4)) (nI_add i 4) ?_
  refine va_sld C.hx C.hb C.X C.bl (LA0_no C.bl) hS (vp_in_nI (by omega) (by have := C.le; omega)) dL_law_2016 ?_
  refine l_bool C.hx C.hb dL_law_2017 dL_law_2020 dL_law_2021 dL_law_2024 ?_
  refine l_callMi (v := (fX7_wouldShare (w 0 0) (w 0 1) (w 0 2) (w 0 3) (w 0 4) mm (xs (nI (i + 1)).toNatClampNeg) (xs (nI (i + 2)).toNatClampNeg) (xs (nI (i + 3)).toNatClampNeg) (if (xs (nI (i + 4)).toNatClampNeg) = 0 then (0 : Int32) else 1)).1) (m2 := (fX7_wouldShare (w 0 0) (w 0 1) (w 0 2) (w 0 3) (w 0 4) mm (xs (nI (i + 1)).toNatClampNeg) (xs (nI (i + 2)).toNatClampNeg) (xs (nI (i + 3)).toNatClampNeg) (if (xs (nI (i + 4)).toNatClampNeg) = 0 then (0 : Int32) else 1)).2) (S2 := SS) hmq (As := [.int (xs (nI (i + 1)).toNatClampNeg), .int (xs (nI (i + 2)).toNatClampNeg), .int (xs (nI (i + 3)).toNatClampNeg), .int (if (xs (nI (i + 4)).toNatClampNeg) = 0 then (0 : Int32) else 1)]) (rest := []) ⟨C.hx, C.hb, C.ml, C.own, C.ts⟩ (mX7_wouldShare l D cy e0 mm SS _ (xs (nI (i + 1)).toNatClampNeg) (xs (nI (i + 2)).toNatClampNeg) (xs (nI (i + 3)).toNatClampNeg) (if (xs (nI (i + 4)).toNatClampNeg) = 0 then (0 : Int32) else 1) hR.I hR.t4 hR.cap) (cwV 4 C.ts gL_law_X7_wouldShare rfl rfl rfl (by decide +kernel) ⟨Nat.le_of_ble_eq_true rfl, Nat.le_of_ble_eq_true rfl⟩) hB hL hS rfl hl.1 (Nat.le_of_ble_eq_true rfl) dL_law_2025 ⟨by refine Nat.le_trans (m := 400000) ?_ rc_c; show cells + _ + _ ≤ 400000; omega, by refine Nat.le_trans (m := 4000000) ?_ rc_s; show slots + _ + _ ≤ 4000000; omega⟩ (fun H locs hL hS => ?_)
  refine lv_istore (lv' := [(6, .int (fX7_wouldShare (w 0 0) (w 0 1) (w 0 2) (w 0 3) (w 0 4) mm (xs (nI (i + 1)).toNatClampNeg) (xs (nI (i + 2)).toNatClampNeg) (xs (nI (i + 3)).toNatClampNeg) (if (xs (nI (i + 4)).toNatClampNeg) = 0 then (0 : Int32) else 1)).1), (5, .int (k12 (fX6_wouldShare g (xs (nI (i + 1)).toNatClampNeg) (xs (nI (i + 2)).toNatClampNeg) (xs (nI (i + 3)).toNatClampNeg) (if (xs (nI (i + 4)).toNatClampNeg) = 0 then (0 : Int32) else 1)).1)), (4, .int (nI i)), (0, .ref b), (1, .ref (ad 0 0)), (2, .ref mq), (3, .ref o)]) C.hx C.hb dL_law_2028 hl (by decide) rfl (fun ls hl => ?_)
  refine lv_aload_n C.hx C.hb dL_law_2030 rfl (lv_at hl 5 rfl) ?_
  refine l_callMi (v := (fX7_wouldShare (w 0 0) (w 0 1) (w 0 2) (w 0 3) (w 0 4) mm (xs (nI (i + 1)).toNatClampNeg) (xs (nI (i + 2)).toNatClampNeg) (xs (nI (i + 3)).toNatClampNeg) (if (xs (nI (i + 4)).toNatClampNeg) = 0 then (0 : Int32) else 1)).2 0 20) (m2 := (fX7_wouldShare (w 0 0) (w 0 1) (w 0 2) (w 0 3) (w 0 4) mm (xs (nI (i + 1)).toNatClampNeg) (xs (nI (i + 2)).toNatClampNeg) (xs (nI (i + 3)).toNatClampNeg) (if (xs (nI (i + 4)).toNatClampNeg) = 0 then (0 : Int32) else 1)).2) (S2 := SS) hmq (As := []) (rest := []) ⟨C.hx, C.hb, C.ml, C.own, C.ts⟩ (kX7_thrown l D cy e0 (fX7_wouldShare (w 0 0) (w 0 1) (w 0 2) (w 0 3) (w 0 4) mm (xs (nI (i + 1)).toNatClampNeg) (xs (nI (i + 2)).toNatClampNeg) (xs (nI (i + 3)).toNatClampNeg) (if (xs (nI (i + 4)).toNatClampNeg) = 0 then (0 : Int32) else 1)).2 SS _) (cwV 0 C.ts gL_law_X7_thrown rfl rfl rfl (by decide +kernel) ⟨Nat.le_of_ble_eq_true rfl, Nat.le_of_ble_eq_true rfl⟩) hB hL hS rfl hl.1 (Nat.le_of_ble_eq_true rfl) dL_law_2031 ⟨by refine Nat.le_trans (m := 400000) ?_ rc_c; show cells + _ + _ + _ ≤ 400000; omega, by refine Nat.le_trans (m := 4000000) ?_ rc_s; show slots + _ + _ + _ ≤ 4000000; omega⟩ (fun H locs hL hS => ?_)
  refine lv_iload C.hx C.hb dL_law_2034 (lv_at hl 1 rfl) ?_
  refine lv_icmp_eq (tgt := 2041) C.hx C.hb dL_law_2036 (by decide) (fun _ => ?_) (fun c => absurd hP.1 c)
  have K : W p l e room_1 s m #[Value.ref b] below meth c H locs (cells + 3 + 0 + 0) (slots + 18 + 0 + 0) Q (F0 m 2058 ls []) := by
    refine lv_goto (tgt := 2075) C.hx C.hb dL_law_2058 (by decide) ?_
    refine W.widen (k := cells + 450) (n := slots + 6200) (by omega) (by omega) ?_
    exact kk _ _ _ w _ _ _ _ ls hL (RS.of hP rfl rfl rfl rfl hR.t4 hR.cap) hS hmq (lv_sub hl [2, 3, 4, 5, 6] rfl)
  refine lv_iload C.hx C.hb dL_law_2041 (lv_at hl 1 rfl) ?_
  refine lv_if_ne (tgt := 2058) C.hx C.hb dL_law_2043 (by decide) (fun _ => K) (fun hz => ?_)
  have hc0 : (fX6_wouldShare g (xs (nI (i + 1)).toNatClampNeg) (xs (nI (i + 2)).toNatClampNeg) (xs (nI (i + 3)).toNatClampNeg) (if (xs (nI (i + 4)).toNatClampNeg) = 0 then (0 : Int32) else 1)).1 = 0 := by
    rcases hcd with h | h | h | h
    · exact h
    · exact absurd (show (k12 (fX6_wouldShare g (xs (nI (i + 1)).toNatClampNeg) (xs (nI (i + 2)).toNatClampNeg) (xs (nI (i + 3)).toNatClampNeg) (if (xs (nI (i + 4)).toNatClampNeg) = 0 then (0 : Int32) else 1)).1) = 0 from Classical.byContradiction (fun q => by first | exact hz q | exact q hz)) (by rw [h]; decide)
    · exact absurd (show (k12 (fX6_wouldShare g (xs (nI (i + 1)).toNatClampNeg) (xs (nI (i + 2)).toNatClampNeg) (xs (nI (i + 3)).toNatClampNeg) (if (xs (nI (i + 4)).toNatClampNeg) = 0 then (0 : Int32) else 1)).1) = 0 from Classical.byContradiction (fun q => by first | exact hz q | exact q hz)) (by rw [h]; decide)
    · exact absurd (show (k12 (fX6_wouldShare g (xs (nI (i + 1)).toNatClampNeg) (xs (nI (i + 2)).toNatClampNeg) (xs (nI (i + 3)).toNatClampNeg) (if (xs (nI (i + 4)).toNatClampNeg) = 0 then (0 : Int32) else 1)).1) = 0 from Classical.byContradiction (fun q => by first | exact hz q | exact q hz)) (by rw [h]; decide)
  refine lv_aload_n C.hx C.hb dL_law_2046 rfl (lv_at hl 6 rfl) ?_
  refine lv_iconst (v := 0) C.hx C.hb dL_law_2047 (by decide) ?_
  refine l_lald C.hx C.hb hB hL dL_law_2048 ?_
  refine l_val (v := (fX7_wouldShare (w 0 0) (w 0 1) (w 0 2) (w 0 3) (w 0 4) mm (xs (nI (i + 1)).toNatClampNeg) (xs (nI (i + 2)).toNatClampNeg) (xs (nI (i + 3)).toNatClampNeg) (if (xs (nI (i + 4)).toNatClampNeg) = 0 then (0 : Int32) else 1)).1.toInt64) (by rw [if_pos hc0]; exact congrArg Int32.toInt64 (hP.2.1 hc0)) ?_
  refine lv_iload C.hx C.hb dL_law_2049 (lv_at hl 0 rfl) ?_
  refine lv_i2l C.hx C.hb dL_law_2051 rfl ?_
  refine W.lcmp C.hx C.hb dL_law_2052 ?_
  refine lv_if_eq (tgt := 2058) C.hx C.hb dL_law_2053 (by decide) (fun _ => K) (fun c => absurd (lcmp_self _) c)
set_option maxRecDepth 100000 in
set_option maxHeartbeats 4000000 in
theorem op_meanScore (C : LC p l s m c b L xs) (hI : cI ad) (hB : LWB D cy e0 s) (hL : LWS D cy ad o e0 s g vo bd w mm SS H) (hR : RS g mm w) (hS : va_S (LA0 s) s.heap H locs) (hmq : bd 0 0 = mq) (hi : i + 5 ≤ L) (hc : cells + 450 ≤ 400000) (hs : slots + 6200 ≤ 4000000) (hl : lv_has ls 9 [(4, .int (nI i)), (0, .ref b), (1, .ref (ad 0 0)), (2, .ref mq), (3, .ref o)])
    (kk : ∀ (g2 : Gd) (v2 : Int64) (bd2 w2 : Nat → Nat → Nat) (m2 : Md) (S2 : Int64) (H1 : Heap) (locs1 : List Loc) (ls1 : Array Slot), LWS D cy ad o e0 s g2 v2 bd2 w2 m2 S2 H1 → RS g2 m2 w2 → va_S (LA0 s) s.heap H1 locs1 → bd2 0 0 = mq → lv_has ls1 9 [(4, .int (nI i)), (0, .ref b), (1, .ref (ad 0 0)), (2, .ref mq), (3, .ref o)] → W p l e room_1 s m #[Value.ref b] below meth c H1 locs1 (cells + 450) (slots + 6200) Q (F0 m 2075 ls1 [])) :
    W p l e room_1 s m #[Value.ref b] below meth c H locs cells slots Q (F0 m 1763 ls []) := by
  have hv : IvC g := ivC_of hR.R hR.I hR.T
  refine lv_aload_n C.hx C.hb dL_law_1763 rfl (lv_at hl 2 rfl) ?_
  refine l_callCd (v := (fX6_meanScore g)) (g2 := g) (As := []) (rest := []) ⟨C.hx, C.hb, C.ml, C.own, C.ts⟩ (kX6_meanScore l D cy hI g _ hv) (cwV 0 C.ts gL_law_X6_meanScore rfl rfl rfl (by decide +kernel) ⟨Nat.le_of_ble_eq_true rfl, Nat.le_of_ble_eq_true rfl⟩) hB hL hS rfl hl.1 (Nat.le_of_ble_eq_true rfl) dL_law_1764 ⟨by refine Nat.le_trans (m := 400000) ?_ rc_c; show cells + _ ≤ 400000; omega, by refine Nat.le_trans (m := 4000000) ?_ rc_s; show slots + _ ≤ 4000000; omega⟩ (fun H locs hL hS => ?_)
  refine lv_dstore (lv' := [(5, .double (fX6_meanScore g)), (4, .int (nI i)), (0, .ref b), (1, .ref (ad 0 0)), (2, .ref mq), (3, .ref o)]) C.hx C.hb dL_law_1767 hl (by decide) rfl (fun ls hl => ?_)
  refine lv_aload_n C.hx C.hb dL_law_1769 rfl (lv_at hl 4 rfl) ?_
  refine l_callMd (v := (fX7_meanScore (w 0 0) (w 0 1) (w 0 2) (w 0 3) (w 0 4) mm).1) (m2 := (fX7_meanScore (w 0 0) (w 0 1) (w 0 2) (w 0 3) (w 0 4) mm).2) (S2 := SS) hmq (As := []) (rest := []) ⟨C.hx, C.hb, C.ml, C.own, C.ts⟩ (mX7_meanScore l D cy e0 mm SS _ hR.I hR.t4 hR.cap) (cwV 0 C.ts gL_law_X7_meanScore rfl rfl rfl (by decide +kernel) ⟨Nat.le_of_ble_eq_true rfl, Nat.le_of_ble_eq_true rfl⟩) hB hL hS rfl hl.1 (Nat.le_of_ble_eq_true rfl) dL_law_1770 ⟨by refine Nat.le_trans (m := 400000) ?_ rc_c; show cells + _ + _ ≤ 400000; omega, by refine Nat.le_trans (m := 4000000) ?_ rc_s; show slots + _ + _ ≤ 4000000; omega⟩ (fun H locs hL hS => ?_)
  have hP := P_meanScore (T := w 0 4) hR.R hR.I hR.T
  refine lv_dstore (lv' := [(7, .double (fX7_meanScore (w 0 0) (w 0 1) (w 0 2) (w 0 3) (w 0 4) mm).1), (5, .double (fX6_meanScore g)), (4, .int (nI i)), (0, .ref b), (1, .ref (ad 0 0)), (2, .ref mq), (3, .ref o)]) C.hx C.hb dL_law_1773 hl (by decide) rfl (fun ls hl => ?_)
  have K : W p l e room_1 s m #[Value.ref b] below meth c H locs (cells + 0 + 11) (slots + 0 + 68) Q (F0 m 1801 ls []) := by
    refine lv_goto (tgt := 2075) C.hx C.hb dL_law_1801 (by decide) ?_
    have hP2 := hP.2
    refine W.widen (k := cells + 450) (n := slots + 6200) (by omega) (by omega) ?_
    exact kk _ _ _ w _ _ _ _ ls hL (⟨by rw [hP2]; exact hR.R.th, by rw [hP2]; exact hR.I.th, hR.T, hR.t4, hR.cap⟩) hS hmq (lv_sub hl [2, 3, 4, 5, 6] rfl)
  obtain ⟨r, hr9⟩ : ∃ r, r = (fX6_meanScore g) := ⟨_, rfl⟩
  have hr8 : (fX7_meanScore (w 0 0) (w 0 1) (w 0 2) (w 0 3) (w 0 4) mm).1 = r := by rw [hr9]; exact hP.1.symm
  rw [← hr9, hr8] at hl
  obtain ⟨v9, hv9⟩ : ∃ v9, v9 = Op.cmpValue (FP.dcmp r r) CmpOp.l := ⟨_, rfl⟩
  refine lv_dload C.hx C.hb dL_law_1775 (lv_at hl 1 rfl) ?_
  refine lv_dload C.hx C.hb dL_law_1777 (lv_at hl 0 rfl) ?_
  refine lv_dcmp C.hx C.hb dL_law_1779 ?_
  rw [← hv9]
  refine lv_if_eq (tgt := 1801) C.hx C.hb dL_law_1780 (by decide) (fun _ => K) (fun hn => ?_)
  refine lv_dload C.hx C.hb dL_law_1783 (lv_at hl 1 rfl) ?_
  refine lv_dload C.hx C.hb dL_law_1785 (lv_at hl 1 rfl) ?_
  refine lv_dcmp C.hx C.hb dL_law_1787 ?_
  rw [← hv9]
  refine lv_if_eq (tgt := 1799) C.hx C.hb dL_law_1788 (by decide) (fun h => absurd h hn) (fun _ => ?_)
  refine lv_dload C.hx C.hb dL_law_1791 (lv_at hl 0 rfl) ?_
  refine lv_dload C.hx C.hb dL_law_1793 (lv_at hl 0 rfl) ?_
  refine lv_dcmp C.hx C.hb dL_law_1795 ?_
  rw [← hv9]
  exact lv_if_ne (tgt := 1801) C.hx C.hb dL_law_1796 (by decide) (fun _ => K) (fun h => absurd h hn)
set_option maxRecDepth 100000 in
set_option maxHeartbeats 4000000 in
theorem op_bestBlend (C : LC p l s m c b L xs) (hI : cI ad) (hB : LWB D cy e0 s) (hL : LWS D cy ad o e0 s g vo bd w mm SS H) (hR : RS g mm w) (hS : va_S (LA0 s) s.heap H locs) (hmq : bd 0 0 = mq) (hi : i + 5 ≤ L) (hc : cells + 450 ≤ 400000) (hs : slots + 6200 ≤ 4000000) (hl : lv_has ls 9 [(4, .int (nI i)), (0, .ref b), (1, .ref (ad 0 0)), (2, .ref mq), (3, .ref o)])
    (kk : ∀ (g2 : Gd) (v2 : Int64) (bd2 w2 : Nat → Nat → Nat) (m2 : Md) (S2 : Int64) (H1 : Heap) (locs1 : List Loc) (ls1 : Array Slot), LWS D cy ad o e0 s g2 v2 bd2 w2 m2 S2 H1 → RS g2 m2 w2 → va_S (LA0 s) s.heap H1 locs1 → bd2 0 0 = mq → lv_has ls1 9 [(4, .int (nI i)), (0, .ref b), (1, .ref (ad 0 0)), (2, .ref mq), (3, .ref o)] → W p l e room_1 s m #[Value.ref b] below meth c H1 locs1 (cells + 450) (slots + 6200) Q (F0 m 2075 ls1 [])) :
    W p l e room_1 s m #[Value.ref b] below meth c H locs cells slots Q (F0 m 1940 ls []) := by
  have hv : IvC g := ivC_of hR.R hR.I hR.T
  refine lv_aload_n C.hx C.hb dL_law_1940 rfl (lv_at hl 2 rfl) ?_
  refine l_callCi (v := (fX6_bestBlend g).1) (g2 := (fX6_bestBlend g).2) (As := []) (rest := []) ⟨C.hx, C.hb, C.ml, C.own, C.ts⟩ (kX6_bestBlend l D cy hI g _ hv) (cwV 0 C.ts gL_law_X6_bestBlend rfl rfl rfl (by decide +kernel) ⟨Nat.le_of_ble_eq_true rfl, Nat.le_of_ble_eq_true rfl⟩) hB hL hS rfl hl.1 (Nat.le_of_ble_eq_true rfl) dL_law_1941 ⟨by refine Nat.le_trans (m := 400000) ?_ rc_c; show cells + _ ≤ 400000; omega, by refine Nat.le_trans (m := 4000000) ?_ rc_s; show slots + _ ≤ 4000000; omega⟩ (fun H locs hL hS => ?_)
  refine lv_aload_n C.hx C.hb dL_law_1944 rfl (lv_at hl 3 rfl) ?_
  refine l_callMi (v := (fX7_bestBlend (w 0 0) (w 0 1) (w 0 2) (w 0 3) (w 0 4) mm).1) (m2 := (fX7_bestBlend (w 0 0) (w 0 1) (w 0 2) (w 0 3) (w 0 4) mm).2) (S2 := SS) hmq (As := []) (rest := [.int (fX6_bestBlend g).1]) ⟨C.hx, C.hb, C.ml, C.own, C.ts⟩ (mX7_bestBlend l D cy e0 mm SS _ hR.I hR.t4 hR.cap) (cwV 0 C.ts gL_law_X7_bestBlend rfl rfl rfl (by decide +kernel) ⟨Nat.le_of_ble_eq_true rfl, Nat.le_of_ble_eq_true rfl⟩) hB hL hS rfl hl.1 (Nat.le_of_ble_eq_true rfl) dL_law_1945 ⟨by refine Nat.le_trans (m := 400000) ?_ rc_c; show cells + _ + _ ≤ 400000; omega, by refine Nat.le_trans (m := 4000000) ?_ rc_s; show slots + _ + _ ≤ 4000000; omega⟩ (fun H locs hL hS => ?_)
  have hP := P_bestBlend (T := w 0 4) hR.R hR.I hR.T
  refine lv_icmp_eq (tgt := 2075) C.hx C.hb dL_law_1948 (by decide) (fun _ => ?_) (fun c => absurd (hP.2.1 rfl) c)
  refine W.widen (k := cells + 450) (n := slots + 6200) (by omega) (by omega) ?_
  exact kk _ _ _ w _ _ _ _ ls hL (RS.of hP rfl rfl rfl rfl hR.t4 hR.cap) hS hmq (lv_sub hl [0, 1, 2, 3, 4] rfl)
set_option maxRecDepth 100000 in
set_option maxHeartbeats 4000000 in
theorem op_digest (C : LC p l s m c b L xs) (hI : cI ad) (hB : LWB D cy e0 s) (hL : LWS D cy ad o e0 s g vo bd w mm SS H) (hR : RS g mm w) (hS : va_S (LA0 s) s.heap H locs) (hmq : bd 0 0 = mq) (hi : i + 5 ≤ L) (hc : cells + 450 ≤ 400000) (hs : slots + 6200 ≤ 4000000) (hl : lv_has ls 9 [(4, .int (nI i)), (0, .ref b), (1, .ref (ad 0 0)), (2, .ref mq), (3, .ref o)])
    (kk : ∀ (g2 : Gd) (v2 : Int64) (bd2 w2 : Nat → Nat → Nat) (m2 : Md) (S2 : Int64) (H1 : Heap) (locs1 : List Loc) (ls1 : Array Slot), LWS D cy ad o e0 s g2 v2 bd2 w2 m2 S2 H1 → RS g2 m2 w2 → va_S (LA0 s) s.heap H1 locs1 → bd2 0 0 = mq → lv_has ls1 9 [(4, .int (nI i)), (0, .ref b), (1, .ref (ad 0 0)), (2, .ref mq), (3, .ref o)] → W p l e room_1 s m #[Value.ref b] below meth c H1 locs1 (cells + 450) (slots + 6200) Q (F0 m 2075 ls1 [])) :
    W p l e room_1 s m #[Value.ref b] below meth c H locs cells slots Q (F0 m 2061 ls []) := by
  have hv : IvC g := ivC_of hR.R hR.I hR.T
  refine lv_aload_n C.hx C.hb dL_law_2061 rfl (lv_at hl 2 rfl) ?_
  refine l_callCl (v := (fX6_digest g).1) (g2 := (fX6_digest g).2) (As := []) (rest := []) ⟨C.hx, C.hb, C.ml, C.own, C.ts⟩ (kX6_digest l D cy hI g _ hv) (cwV 0 C.ts gL_law_X6_digest rfl rfl rfl (by decide +kernel) ⟨Nat.le_of_ble_eq_true rfl, Nat.le_of_ble_eq_true rfl⟩) hB hL hS rfl hl.1 (Nat.le_of_ble_eq_true rfl) dL_law_2062 ⟨by refine Nat.le_trans (m := 400000) ?_ rc_c; show cells + _ ≤ 400000; omega, by refine Nat.le_trans (m := 4000000) ?_ rc_s; show slots + _ ≤ 4000000; omega⟩ (fun H locs hL hS => ?_)
  refine lv_aload_n C.hx C.hb dL_law_2065 rfl (lv_at hl 3 rfl) ?_
  refine l_callMl (v := (fX7_digest (w 0 0) (w 0 1) (w 0 2) (w 0 3) (w 0 4) mm SS)) (m2 := (u2 mm 0 20 0)) (S2 := (fX7_digest (w 0 0) (w 0 1) (w 0 2) (w 0 3) (w 0 4) mm SS)) hmq (As := []) (rest := [.long (fX6_digest g).1]) ⟨C.hx, C.hb, C.ml, C.own, C.ts⟩ (mX7_digest l D cy e0 mm SS _ hR.I hR.t4 hR.cap) (cwV 0 C.ts gL_law_X7_digest rfl rfl rfl (by decide +kernel) ⟨Nat.le_of_ble_eq_true rfl, Nat.le_of_ble_eq_true rfl⟩) hB hL hS rfl hl.1 (Nat.le_of_ble_eq_true rfl) dL_law_2066 ⟨by refine Nat.le_trans (m := 400000) ?_ rc_c; show cells + _ + _ ≤ 400000; omega, by refine Nat.le_trans (m := 4000000) ?_ rc_s; show slots + _ + _ ≤ 4000000; omega⟩ (fun H locs hL hS => ?_)
  have hP := P_digest (T := w 0 4) hR.R hR.I hR.T SS
  refine W.lcmp C.hx C.hb dL_law_2069 ?_
  refine lv_if_eq (tgt := 2075) C.hx C.hb dL_law_2070 (by decide) (fun _ => ?_) (fun c => absurd (by rw [hP.1]; exact lcmp_self _) c)
  refine W.widen (k := cells + 450) (n := slots + 6200) (by omega) (by omega) ?_
  exact kk _ _ _ w _ _ _ _ ls hL (⟨hP.2.1, hP.2.2.1, hP.2.2.2, hR.t4, hR.cap⟩) hS hmq (lv_sub hl [0, 1, 2, 3, 4] rfl)
end LO
